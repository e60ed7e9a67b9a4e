/-! ===== methods as functions (written by a program) ===== -/
def C_X3_hasRoomForCure : List (Nat × dc_H) := []
theorem CO_X3_hasRoomForCure {u : Nat} : dc_CO u C_X3_hasRoomForCure := dc_CO_nil
def S_X3_hasRoomForCure : List (Nat × List Nat) := []
def d_X3_hasRoomForCure (x0 : Nat) (m : dc_M) : Int32 :=
  (if 6 ≤ (Int32.toInt (m.1 x0 0)) then (0 : Int32) else (if 16 < (Int32.toInt ((m.1 x0 1) + (2 : Int32))) then (0 : Int32) else (if 20 < (Int32.toInt ((m.1 x0 2) + (2 : Int32))) then (0 : Int32) else (1 : Int32))))
set_option maxHeartbeats 8000000 in
theorem k_X3_hasRoomForCure {u : Nat} {N : Nat} {Φ : Int32 → Option Value → dc_M → Prop} (x0 : Nat) (m : dc_M) (kR : ∀ (v : Int32), Φ (v) (some (.int v)) m)  {lv : ab_L} (f0 : ab_lk lv 0 = some (.ref x0)) : dc_pv u N ab_M_X3_hasRoomForCure 0 lv [] m (Φ (d_X3_hasRoomForCure x0 m)) := by
  refine dc_pv.mono (dc_ok (C := C_X3_hasRoomForCure) (S := S_X3_hasRoomForCure) CO_X3_hasRoomForCure 400 0 [(0, .ref x0)] lv [] m (dc_sub_cons f0 (dc_sub_nil)) ?_) (Nat.le_succ N)
  unfold d_X3_hasRoomForCure
  refine dg_s (pc' := 1) [.ref x0] rfl (fun _ => rfl) rfl ?_
  refine dg_s (pc' := 4) [.int (m.1 x0 0)] rfl (fun _ => rfl) rfl ?_
  refine dg_s (pc' := 6) [.int (6 : Int32), .int (m.1 x0 0)] rfl (fun _ => rfl) rfl ?_
  refine dw_if (fun t => Φ t) (6 ≤ (Int32.toInt (m.1 x0 0))) [] 35 9 rfl (fun _ => rfl) (fun c0 => ?_) (fun c0 => ?_)
  · refine dw_g rfl ?_
    refine dg_s (pc' := 36) [.int (0 : Int32)] rfl (fun _ => rfl) rfl ?_
    exact dw_r (some (.inl (some (.int (0 : Int32)), m))) rfl (fun _ => rfl) (kR _)
  · refine dw_g rfl ?_
    refine dg_s (pc' := 10) [.ref x0] rfl (fun _ => rfl) rfl ?_
    refine dg_s (pc' := 13) [.int (m.1 x0 1)] rfl (fun _ => rfl) rfl ?_
    refine dg_s (pc' := 14) [.int (2 : Int32), .int (m.1 x0 1)] rfl (fun _ => rfl) rfl ?_
    refine dg_s (pc' := 15) [.int ((m.1 x0 1) + (2 : Int32))] rfl (fun _ => rfl) rfl ?_
    refine dg_s (pc' := 17) [.int (16 : Int32), .int ((m.1 x0 1) + (2 : Int32))] rfl (fun _ => rfl) rfl ?_
    refine dw_if (fun t => Φ t) (16 < (Int32.toInt ((m.1 x0 1) + (2 : Int32)))) [] 35 20 rfl (fun _ => rfl) (fun c1 => ?_) (fun c1 => ?_)
    · refine dw_g rfl ?_
      refine dg_s (pc' := 36) [.int (0 : Int32)] rfl (fun _ => rfl) rfl ?_
      exact dw_r (some (.inl (some (.int (0 : Int32)), m))) rfl (fun _ => rfl) (kR _)
    · refine dw_g rfl ?_
      refine dg_s (pc' := 21) [.ref x0] rfl (fun _ => rfl) rfl ?_
      refine dg_s (pc' := 24) [.int (m.1 x0 2)] rfl (fun _ => rfl) rfl ?_
      refine dg_s (pc' := 25) [.int (2 : Int32), .int (m.1 x0 2)] rfl (fun _ => rfl) rfl ?_
      refine dg_s (pc' := 26) [.int ((m.1 x0 2) + (2 : Int32))] rfl (fun _ => rfl) rfl ?_
      refine dg_s (pc' := 28) [.int (20 : Int32), .int ((m.1 x0 2) + (2 : Int32))] rfl (fun _ => rfl) rfl ?_
      refine dw_if (fun t => Φ t) (20 < (Int32.toInt ((m.1 x0 2) + (2 : Int32)))) [] 35 31 rfl (fun _ => rfl) (fun c2 => ?_) (fun c2 => ?_)
      · refine dw_g rfl ?_
        refine dg_s (pc' := 36) [.int (0 : Int32)] rfl (fun _ => rfl) rfl ?_
        exact dw_r (some (.inl (some (.int (0 : Int32)), m))) rfl (fun _ => rfl) (kR _)
      · refine dw_g rfl ?_
        refine dg_s (pc' := 32) [.int (1 : Int32)] rfl (fun _ => rfl) rfl ?_
        refine dg_s (pc' := 36) [.int (1 : Int32)] rfl (fun _ => rfl) rfl ?_
        exact dw_r (some (.inl (some (.int (1 : Int32)), m))) rfl (fun _ => rfl) (kR _)
def H_X3_hasRoomForCure : dc_H := fun As m k => match As with
  | [.ref x0] => k (some (.int (d_X3_hasRoomForCure x0 m))) m
  | _ => dc_kz
theorem H_X3_hasRoomForCure_ok {u : Nat} : dc_cok u 41 H_X3_hasRoomForCure := fun M' hG N As m k P hz hP => by
  obtain rfl : ab_M_X3_hasRoomForCure = M' := Option.some.inj hG
  unfold H_X3_hasRoomForCure at hP
  split at hP
  · rename_i x0
    exact dc_pv.imp (k_X3_hasRoomForCure (Φ := fun (t : Int32) r m' => P (k (some (.int t)) m) → P (k r m')) x0 m (fun _  h => h) rfl) (fun r m' h => h hP)
  · exact absurd hP hz
noncomputable def C_X9_refusedCure : List (Nat × dc_H) := [(26, H_X3_hasEvent), (41, H_X3_hasRoomForCure), (135, H_X9_isRight)]
theorem CO_X9_refusedCure {u : Nat} : dc_CO u C_X9_refusedCure := dc_CO_cons H_X3_hasEvent_ok (dc_CO_cons H_X3_hasRoomForCure_ok (dc_CO_cons H_X9_isRight_ok (dc_CO_nil)))
def S_X9_refusedCure : List (Nat × List Nat) := []
noncomputable def d_X9_refusedCure (x0 : Nat) (x1 : Int32) (x2 : Int32) (m : dc_M) : Option (Int32 × dc_M) :=
  (if (Int32.toInt (d_X3_hasEvent (m.2.2.1 x0 7) x1 m)) = 0 then some (((-1 : Int32), m)) else (if (Int32.toInt (d_X3_hasEvent (m.2.2.1 x0 7) x2 m)) = 0 then some (((-1 : Int32), m)) else (if ¬ (Int32.toInt x1) = (Int32.toInt x2) then ((d_X9_isRight x0 m).bind (fun q1 => (if ¬ (Int32.toInt q1.1) = 0 then (if (Int32.toInt (d_X3_hasRoomForCure (q1.2.2.2.1 x0 7) q1.2)) = 0 then some (((-3 : Int32), q1.2)) else some (((0 : Int32), q1.2))) else some (((-2 : Int32), q1.2))))) else some (((-1 : Int32), m)))))
set_option maxHeartbeats 8000000 in
theorem k_X9_refusedCure {u : Nat} {N : Nat} {Φ : (Option (Int32 × dc_M)) → Option Value → dc_M → Prop} (x0 : Nat) (x1 : Int32) (x2 : Int32) (m : dc_M) (kR : ∀ (v : Int32) (m : dc_M), Φ (some ((v, m))) (some (.int v)) m)  {lv : ab_L} (f0 : ab_lk lv 0 = some (.ref x0)) (f1 : ab_lk lv 1 = some (.int x1)) (f2 : ab_lk lv 2 = some (.int x2)) : dc_pv u N ab_M_X9_refusedCure 0 lv [] m (Φ (d_X9_refusedCure x0 x1 x2 m)) := by
  refine dc_pv.mono (dc_ok (C := C_X9_refusedCure) (S := S_X9_refusedCure) CO_X9_refusedCure 400 0 [(0, .ref x0), (1, .int x1), (2, .int x2)] lv [] m (dc_sub_cons f0 (dc_sub_cons f1 (dc_sub_cons f2 (dc_sub_nil)))) ?_) (Nat.le_succ N)
  unfold d_X9_refusedCure
  refine dg_s (pc' := 1) [.ref x0] rfl (fun _ => rfl) rfl ?_
  refine dg_s (pc' := 4) [.ref (m.2.2.1 x0 7)] rfl (fun _ => rfl) rfl ?_
  refine dg_s (pc' := 5) [.int x1, .ref (m.2.2.1 x0 7)] rfl (fun _ => rfl) rfl ?_
  refine dg_s (pc' := 8) [.int (d_X3_hasEvent (m.2.2.1 x0 7) x1 m)] rfl (fun _ => rfl) rfl ?_
  refine dw_if (fun t => Φ t) ((Int32.toInt (d_X3_hasEvent (m.2.2.1 x0 7) x1 m)) = 0) [] 27 11 rfl (fun _ => rfl) (fun c0 => ?_) (fun c0 => ?_)
  · refine dw_g rfl ?_
    refine dg_s (pc' := 28) [.int (-1 : Int32)] rfl (fun _ => rfl) rfl ?_
    exact dw_r (some (.inl (some (.int (-1 : Int32)), m))) rfl (fun _ => rfl) (kR _ _)
  · refine dw_g rfl ?_
    refine dg_s (pc' := 12) [.ref x0] rfl (fun _ => rfl) rfl ?_
    refine dg_s (pc' := 15) [.ref (m.2.2.1 x0 7)] rfl (fun _ => rfl) rfl ?_
    refine dg_s (pc' := 16) [.int x2, .ref (m.2.2.1 x0 7)] rfl (fun _ => rfl) rfl ?_
    refine dg_s (pc' := 19) [.int (d_X3_hasEvent (m.2.2.1 x0 7) x2 m)] rfl (fun _ => rfl) rfl ?_
    refine dw_if (fun t => Φ t) ((Int32.toInt (d_X3_hasEvent (m.2.2.1 x0 7) x2 m)) = 0) [] 27 22 rfl (fun _ => rfl) (fun c1 => ?_) (fun c1 => ?_)
    · refine dw_g rfl ?_
      refine dg_s (pc' := 28) [.int (-1 : Int32)] rfl (fun _ => rfl) rfl ?_
      exact dw_r (some (.inl (some (.int (-1 : Int32)), m))) rfl (fun _ => rfl) (kR _ _)
    · refine dw_g rfl ?_
      refine dg_s (pc' := 23) [.int x1] rfl (fun _ => rfl) rfl ?_
      refine dg_s (pc' := 24) [.int x2, .int x1] rfl (fun _ => rfl) rfl ?_
      refine dw_if (fun t => Φ t) (¬ (Int32.toInt x1) = (Int32.toInt x2)) [] 29 27 rfl (fun _ => rfl) (fun c2 => ?_) (fun c2 => ?_)
      · refine dw_g rfl ?_
        refine dg_s (pc' := 30) [.ref x0] rfl (fun _ => rfl) rfl ?_
        refine dw_b (fun t => Φ t) (pc' := 33) (fun q1 => [.int q1.1]) (fun q1 => q1.2) rfl (fun _ => rfl) (fun q1 => ?_)
        refine dw_g rfl ?_
        refine dw_if (fun t => Φ t) (¬ (Int32.toInt q1.1) = 0) [] 39 36 rfl (fun _ => rfl) (fun c3 => ?_) (fun c3 => ?_)
        · refine dw_g rfl ?_
          refine dg_s (pc' := 40) [.ref x0] rfl (fun _ => rfl) rfl ?_
          refine dg_s (pc' := 43) [.ref (q1.2.2.2.1 x0 7)] rfl (fun _ => rfl) rfl ?_
          refine dg_s (pc' := 46) [.int (d_X3_hasRoomForCure (q1.2.2.2.1 x0 7) q1.2)] rfl (fun _ => rfl) rfl ?_
          refine dw_if (fun t => Φ t) ((Int32.toInt (d_X3_hasRoomForCure (q1.2.2.2.1 x0 7) q1.2)) = 0) [] 53 49 rfl (fun _ => rfl) (fun c4 => ?_) (fun c4 => ?_)
          · refine dw_g rfl ?_
            refine dg_s (pc' := 55) [.int (-3 : Int32)] rfl (fun _ => rfl) rfl ?_
            exact dw_r (some (.inl (some (.int (-3 : Int32)), q1.2))) rfl (fun _ => rfl) (kR _ _)
          · refine dw_g rfl ?_
            refine dg_s (pc' := 50) [.int (0 : Int32)] rfl (fun _ => rfl) rfl ?_
            refine dg_s (pc' := 55) [.int (0 : Int32)] rfl (fun _ => rfl) rfl ?_
            exact dw_r (some (.inl (some (.int (0 : Int32)), q1.2))) rfl (fun _ => rfl) (kR _ _)
        · refine dw_g rfl ?_
          refine dg_s (pc' := 38) [.int (-2 : Int32)] rfl (fun _ => rfl) rfl ?_
          exact dw_r (some (.inl (some (.int (-2 : Int32)), q1.2))) rfl (fun _ => rfl) (kR _ _)
      · refine dw_g rfl ?_
        refine dg_s (pc' := 28) [.int (-1 : Int32)] rfl (fun _ => rfl) rfl ?_
        exact dw_r (some (.inl (some (.int (-1 : Int32)), m))) rfl (fun _ => rfl) (kR _ _)
noncomputable def H_X9_refusedCure : dc_H := fun As m k => match As with
  | [.ref x0, .int x1, .int x2] => (d_X9_refusedCure x0 x1 x2 m).bind (fun q => k (some (.int q.1)) q.2)
  | _ => dc_kz
theorem H_X9_refusedCure_ok {u : Nat} : dc_cok u 140 H_X9_refusedCure := fun M' hG N As m k P hz hP => by
  obtain rfl : ab_M_X9_refusedCure = M' := Option.some.inj hG
  unfold H_X9_refusedCure at hP
  split at hP
  · rename_i x0 x1 x2
    exact dc_pv.imp (k_X9_refusedCure (Φ := fun (t : Option (Int32 × dc_M)) r m' => P (t.bind (fun q => k (some (.int q.1)) q.2)) → P (k r m')) x0 x1 x2 m (fun _ _ h => h) rfl rfl rfl) (fun r m' h => h hP)
  · exact absurd hP hz
noncomputable def C_X9_cure : List (Nat × dc_H) := [(42, H_X3_addWireBehind), (133, H_X9_beginAnew), (140, H_X9_refusedCure)]
theorem CO_X9_cure {u : Nat} : dc_CO u C_X9_cure := dc_CO_cons H_X3_addWireBehind_ok (dc_CO_cons H_X9_beginAnew_ok (dc_CO_cons H_X9_refusedCure_ok (dc_CO_nil)))
def S_X9_cure : List (Nat × List Nat) := []
noncomputable def d_X9_cure (x0 : Nat) (x1 : Int32) (x2 : Int32) (m : dc_M) : Option (Int32 × dc_M) :=
  ((d_X9_refusedCure x0 x1 x2 m).bind (fun q1 => (if (Int32.toInt q1.1) = 0 then ((d_X3_addWireBehind (q1.2.2.2.1 x0 7) x1 x2 q1.2).bind (fun q2 => (dc_let (d_X9_beginAnew x0 q2) (fun q3 => some ((((q3.1 (q3.2.2.1 x0 7) 0) - (1 : Int32)), q3)))))) else some ((q1.1, q1.2)))))
set_option maxHeartbeats 8000000 in
theorem k_X9_cure {u : Nat} {N : Nat} {Φ : (Option (Int32 × dc_M)) → Option Value → dc_M → Prop} (x0 : Nat) (x1 : Int32) (x2 : Int32) (m : dc_M) (kR : ∀ (v : Int32) (m : dc_M), Φ (some ((v, m))) (some (.int v)) m)  {lv : ab_L} (f0 : ab_lk lv 0 = some (.ref x0)) (f1 : ab_lk lv 1 = some (.int x1)) (f2 : ab_lk lv 2 = some (.int x2)) : dc_pv u N ab_M_X9_cure 0 lv [] m (Φ (d_X9_cure x0 x1 x2 m)) := by
  refine dc_pv.mono (dc_ok (C := C_X9_cure) (S := S_X9_cure) CO_X9_cure 400 0 [(0, .ref x0), (1, .int x1), (2, .int x2)] lv [] m (dc_sub_cons f0 (dc_sub_cons f1 (dc_sub_cons f2 (dc_sub_nil)))) ?_) (Nat.le_succ N)
  unfold d_X9_cure
  refine dg_s (pc' := 1) [.ref x0] rfl (fun _ => rfl) rfl ?_
  refine dg_s (pc' := 2) [.int x1, .ref x0] rfl (fun _ => rfl) rfl ?_
  refine dg_s (pc' := 3) [.int x2, .int x1, .ref x0] rfl (fun _ => rfl) rfl ?_
  refine dw_b (fun t => Φ t) (pc' := 6) (fun q1 => [.int q1.1]) (fun q1 => q1.2) rfl (fun _ => rfl) (fun q1 => ?_)
  refine dw_g rfl ?_
  refine dg_L (pc' := 7) [(3, .int q1.1), (0, .ref x0), (1, .int x1), (2, .int x2)] [] rfl (fun _ => rfl) rfl ?_
  refine dg_s (pc' := 8) [.int q1.1] rfl (fun _ => rfl) rfl ?_
  refine dw_if (fun t => Φ t) ((Int32.toInt q1.1) = 0) [] 13 11 rfl (fun _ => rfl) (fun c0 => ?_) (fun c0 => ?_)
  · refine dw_g rfl ?_
    refine dg_s (pc' := 14) [.ref x0] rfl (fun _ => rfl) rfl ?_
    refine dg_s (pc' := 17) [.ref (q1.2.2.2.1 x0 7)] rfl (fun _ => rfl) rfl ?_
    refine dg_s (pc' := 18) [.int x1, .ref (q1.2.2.2.1 x0 7)] rfl (fun _ => rfl) rfl ?_
    refine dg_s (pc' := 19) [.int x2, .int x1, .ref (q1.2.2.2.1 x0 7)] rfl (fun _ => rfl) rfl ?_
    refine dw_b (fun t => Φ t) (pc' := 22) (fun q2 => []) (fun q2 => q2) rfl (fun _ => rfl) (fun q2 => ?_)
    refine dw_g rfl ?_
    refine dg_s (pc' := 23) [.ref x0] rfl (fun _ => rfl) rfl ?_
    refine dw_l (fun t => Φ t) (pc' := 26) (fun q3 => []) (fun q3 => q3) rfl (fun _ => rfl) (fun q3 => ?_)
    refine dw_g rfl ?_
    refine dg_s (pc' := 27) [.ref x0] rfl (fun _ => rfl) rfl ?_
    refine dg_s (pc' := 30) [.ref (q3.2.2.1 x0 7)] rfl (fun _ => rfl) rfl ?_
    refine dg_s (pc' := 33) [.int (q3.1 (q3.2.2.1 x0 7) 0)] rfl (fun _ => rfl) rfl ?_
    refine dg_s (pc' := 34) [.int (1 : Int32), .int (q3.1 (q3.2.2.1 x0 7) 0)] rfl (fun _ => rfl) rfl ?_
    refine dg_s (pc' := 35) [.int ((q3.1 (q3.2.2.1 x0 7) 0) - (1 : Int32))] rfl (fun _ => rfl) rfl ?_
    exact dw_r (some (.inl (some (.int ((q3.1 (q3.2.2.1 x0 7) 0) - (1 : Int32))), q3))) rfl (fun _ => rfl) (kR _ _)
  · refine dw_g rfl ?_
    refine dg_s (pc' := 12) [.int q1.1] rfl (fun _ => rfl) rfl ?_
    exact dw_r (some (.inl (some (.int q1.1), q1.2))) rfl (fun _ => rfl) (kR _ _)
noncomputable def H_X9_cure : dc_H := fun As m k => match As with
  | [.ref x0, .int x1, .int x2] => (d_X9_cure x0 x1 x2 m).bind (fun q => k (some (.int q.1)) q.2)
  | _ => dc_kz
theorem H_X9_cure_ok {u : Nat} : dc_cok u 119 H_X9_cure := fun M' hG N As m k P hz hP => by
  obtain rfl : ab_M_X9_cure = M' := Option.some.inj hG
  unfold H_X9_cure at hP
  split at hP
  · rename_i x0 x1 x2
    exact dc_pv.imp (k_X9_cure (Φ := fun (t : Option (Int32 × dc_M)) r m' => P (t.bind (fun q => k (some (.int q.1)) q.2)) → P (k r m')) x0 x1 x2 m (fun _ _ h => h) rfl rfl rfl) (fun r m' h => h hP)
  · exact absurd hP hz
def C_X10_after : List (Nat × dc_H) := []
theorem CO_X10_after {u : Nat} : dc_CO u C_X10_after := dc_CO_nil
def S_X10_after : List (Nat × List Nat) := []
def d_X10_after (x0 : Nat) (x1 : Int32) (x2 : Int32) (m : dc_M) : Int32 :=
  ((x2 &&& ((m.1 (x0 + 6) (Int32.toNatClampNeg x1)) ^^^ (-1 : Int32))) ||| (m.1 (x0 + 7) (Int32.toNatClampNeg x1)))
set_option maxHeartbeats 8000000 in
theorem k_X10_after {u : Nat} {N : Nat} {Φ : Int32 → Option Value → dc_M → Prop} (x0 : Nat) (x1 : Int32) (x2 : Int32) (m : dc_M) (kR : ∀ (v : Int32), Φ (v) (some (.int v)) m)  {lv : ab_L} (f0 : ab_lk lv 0 = some (.ref x0)) (f1 : ab_lk lv 1 = some (.int x1)) (f2 : ab_lk lv 2 = some (.int x2)) : dc_pv u N ab_M_X10_after 0 lv [] m (Φ (d_X10_after x0 x1 x2 m)) := by
  refine dc_pv.mono (dc_ok (C := C_X10_after) (S := S_X10_after) CO_X10_after 400 0 [(0, .ref x0), (1, .int x1), (2, .int x2)] lv [] m (dc_sub_cons f0 (dc_sub_cons f1 (dc_sub_cons f2 (dc_sub_nil)))) ?_) (Nat.le_succ N)
  unfold d_X10_after
  refine dg_s (pc' := 1) [.int x2] rfl (fun _ => rfl) rfl ?_
  refine dg_s (pc' := 2) [.ref x0, .int x2] rfl (fun _ => rfl) rfl ?_
  refine dg_s (pc' := 5) [.ref (x0 + 6), .int x2] rfl (fun _ => rfl) rfl ?_
  refine dg_s (pc' := 6) [.int x1, .ref (x0 + 6), .int x2] rfl (fun _ => rfl) rfl ?_
  refine dg_s (pc' := 7) [.int (m.1 (x0 + 6) (Int32.toNatClampNeg x1)), .int x2] rfl (fun _ => rfl) rfl ?_
  refine dg_s (pc' := 8) [.int (-1 : Int32), .int (m.1 (x0 + 6) (Int32.toNatClampNeg x1)), .int x2] rfl (fun _ => rfl) rfl ?_
  refine dg_s (pc' := 9) [.int ((m.1 (x0 + 6) (Int32.toNatClampNeg x1)) ^^^ (-1 : Int32)), .int x2] rfl (fun _ => rfl) rfl ?_
  refine dg_s (pc' := 10) [.int (x2 &&& ((m.1 (x0 + 6) (Int32.toNatClampNeg x1)) ^^^ (-1 : Int32)))] rfl (fun _ => rfl) rfl ?_
  refine dg_s (pc' := 11) [.ref x0, .int (x2 &&& ((m.1 (x0 + 6) (Int32.toNatClampNeg x1)) ^^^ (-1 : Int32)))] rfl (fun _ => rfl) rfl ?_
  refine dg_s (pc' := 14) [.ref (x0 + 7), .int (x2 &&& ((m.1 (x0 + 6) (Int32.toNatClampNeg x1)) ^^^ (-1 : Int32)))] rfl (fun _ => rfl) rfl ?_
  refine dg_s (pc' := 15) [.int x1, .ref (x0 + 7), .int (x2 &&& ((m.1 (x0 + 6) (Int32.toNatClampNeg x1)) ^^^ (-1 : Int32)))] rfl (fun _ => rfl) rfl ?_
  refine dg_s (pc' := 16) [.int (m.1 (x0 + 7) (Int32.toNatClampNeg x1)), .int (x2 &&& ((m.1 (x0 + 6) (Int32.toNatClampNeg x1)) ^^^ (-1 : Int32)))] rfl (fun _ => rfl) rfl ?_
  refine dg_s (pc' := 17) [.int ((x2 &&& ((m.1 (x0 + 6) (Int32.toNatClampNeg x1)) ^^^ (-1 : Int32))) ||| (m.1 (x0 + 7) (Int32.toNatClampNeg x1)))] rfl (fun _ => rfl) rfl ?_
  exact dw_r (some (.inl (some (.int ((x2 &&& ((m.1 (x0 + 6) (Int32.toNatClampNeg x1)) ^^^ (-1 : Int32))) ||| (m.1 (x0 + 7) (Int32.toNatClampNeg x1)))), m))) rfl (fun _ => rfl) (kR _)
def H_X10_after : dc_H := fun As m k => match As with
  | [.ref x0, .int x1, .int x2] => k (some (.int (d_X10_after x0 x1 x2 m))) m
  | _ => dc_kz
theorem H_X10_after_ok {u : Nat} : dc_cok u 171 H_X10_after := fun M' hG N As m k P hz hP => by
  obtain rfl : ab_M_X10_after = M' := Option.some.inj hG
  unfold H_X10_after at hP
  split at hP
  · rename_i x0 x1 x2
    exact dc_pv.imp (k_X10_after (Φ := fun (t : Int32) r m' => P (k (some (.int t)) m) → P (k r m')) x0 x1 x2 m (fun _  h => h) rfl rfl rfl) (fun r m' h => h hP)
  · exact absurd hP hz
def C_X10_isReady : List (Nat × dc_H) := []
theorem CO_X10_isReady {u : Nat} : dc_CO u C_X10_isReady := dc_CO_nil
def S_X10_isReady : List (Nat × List Nat) := []
def d_X10_isReady (x0 : Nat) (x1 : Int32) (x2 : Int32) (m : dc_M) : Int32 :=
  (if (Int32.toInt (m.1 (x0 + 6) (Int32.toNatClampNeg x1))) = 0 then (0 : Int32) else (if ¬ (Int32.toInt (x2 &&& (m.1 (x0 + 6) (Int32.toNatClampNeg x1)))) = (Int32.toInt (m.1 (x0 + 6) (Int32.toNatClampNeg x1))) then (0 : Int32) else (1 : Int32)))
set_option maxHeartbeats 8000000 in
theorem k_X10_isReady {u : Nat} {N : Nat} {Φ : Int32 → Option Value → dc_M → Prop} (x0 : Nat) (x1 : Int32) (x2 : Int32) (m : dc_M) (kR : ∀ (v : Int32), Φ (v) (some (.int v)) m)  {lv : ab_L} (f0 : ab_lk lv 0 = some (.ref x0)) (f1 : ab_lk lv 1 = some (.int x1)) (f2 : ab_lk lv 2 = some (.int x2)) : dc_pv u N ab_M_X10_isReady 0 lv [] m (Φ (d_X10_isReady x0 x1 x2 m)) := by
  refine dc_pv.mono (dc_ok (C := C_X10_isReady) (S := S_X10_isReady) CO_X10_isReady 400 0 [(0, .ref x0), (1, .int x1), (2, .int x2)] lv [] m (dc_sub_cons f0 (dc_sub_cons f1 (dc_sub_cons f2 (dc_sub_nil)))) ?_) (Nat.le_succ N)
  unfold d_X10_isReady
  refine dg_s (pc' := 1) [.ref x0] rfl (fun _ => rfl) rfl ?_
  refine dg_s (pc' := 4) [.ref (x0 + 6)] rfl (fun _ => rfl) rfl ?_
  refine dg_s (pc' := 5) [.int x1, .ref (x0 + 6)] rfl (fun _ => rfl) rfl ?_
  refine dg_s (pc' := 6) [.int (m.1 (x0 + 6) (Int32.toNatClampNeg x1))] rfl (fun _ => rfl) rfl ?_
  refine dw_if (fun t => Φ t) ((Int32.toInt (m.1 (x0 + 6) (Int32.toNatClampNeg x1))) = 0) [] 30 9 rfl (fun _ => rfl) (fun c0 => ?_) (fun c0 => ?_)
  · refine dw_g rfl ?_
    refine dg_s (pc' := 31) [.int (0 : Int32)] rfl (fun _ => rfl) rfl ?_
    exact dw_r (some (.inl (some (.int (0 : Int32)), m))) rfl (fun _ => rfl) (kR _)
  · refine dw_g rfl ?_
    refine dg_s (pc' := 10) [.int x2] rfl (fun _ => rfl) rfl ?_
    refine dg_s (pc' := 11) [.ref x0, .int x2] rfl (fun _ => rfl) rfl ?_
    refine dg_s (pc' := 14) [.ref (x0 + 6), .int x2] rfl (fun _ => rfl) rfl ?_
    refine dg_s (pc' := 15) [.int x1, .ref (x0 + 6), .int x2] rfl (fun _ => rfl) rfl ?_
    refine dg_s (pc' := 16) [.int (m.1 (x0 + 6) (Int32.toNatClampNeg x1)), .int x2] rfl (fun _ => rfl) rfl ?_
    refine dg_s (pc' := 17) [.int (x2 &&& (m.1 (x0 + 6) (Int32.toNatClampNeg x1)))] rfl (fun _ => rfl) rfl ?_
    refine dg_s (pc' := 18) [.ref x0, .int (x2 &&& (m.1 (x0 + 6) (Int32.toNatClampNeg x1)))] rfl (fun _ => rfl) rfl ?_
    refine dg_s (pc' := 21) [.ref (x0 + 6), .int (x2 &&& (m.1 (x0 + 6) (Int32.toNatClampNeg x1)))] rfl (fun _ => rfl) rfl ?_
    refine dg_s (pc' := 22) [.int x1, .ref (x0 + 6), .int (x2 &&& (m.1 (x0 + 6) (Int32.toNatClampNeg x1)))] rfl (fun _ => rfl) rfl ?_
    refine dg_s (pc' := 23) [.int (m.1 (x0 + 6) (Int32.toNatClampNeg x1)), .int (x2 &&& (m.1 (x0 + 6) (Int32.toNatClampNeg x1)))] rfl (fun _ => rfl) rfl ?_
    refine dw_if (fun t => Φ t) (¬ (Int32.toInt (x2 &&& (m.1 (x0 + 6) (Int32.toNatClampNeg x1)))) = (Int32.toInt (m.1 (x0 + 6) (Int32.toNatClampNeg x1)))) [] 30 26 rfl (fun _ => rfl) (fun c1 => ?_) (fun c1 => ?_)
    · refine dw_g rfl ?_
      refine dg_s (pc' := 31) [.int (0 : Int32)] rfl (fun _ => rfl) rfl ?_
      exact dw_r (some (.inl (some (.int (0 : Int32)), m))) rfl (fun _ => rfl) (kR _)
    · refine dw_g rfl ?_
      refine dg_s (pc' := 27) [.int (1 : Int32)] rfl (fun _ => rfl) rfl ?_
      refine dg_s (pc' := 31) [.int (1 : Int32)] rfl (fun _ => rfl) rfl ?_
      exact dw_r (some (.inl (some (.int (1 : Int32)), m))) rfl (fun _ => rfl) (kR _)
def H_X10_isReady : dc_H := fun As m k => match As with
  | [.ref x0, .int x1, .int x2] => k (some (.int (d_X10_isReady x0 x1 x2 m))) m
  | _ => dc_kz
theorem H_X10_isReady_ok {u : Nat} : dc_cok u 169 H_X10_isReady := fun M' hG N As m k P hz hP => by
  obtain rfl : ab_M_X10_isReady = M' := Option.some.inj hG
  unfold H_X10_isReady at hP
  split at hP
  · rename_i x0 x1 x2
    exact dc_pv.imp (k_X10_isReady (Φ := fun (t : Int32) r m' => P (k (some (.int t)) m) → P (k r m')) x0 x1 x2 m (fun _  h => h) rfl rfl rfl) (fun r m' h => h hP)
  · exact absurd hP hz
def C_X10_isUnsafe : List (Nat × dc_H) := []
theorem CO_X10_isUnsafe {u : Nat} : dc_CO u C_X10_isUnsafe := dc_CO_nil
def S_X10_isUnsafe : List (Nat × List Nat) := []
def d_X10_isUnsafe (x0 : Nat) (x1 : Int32) (x2 : Int32) (m : dc_M) : Int32 :=
  (if (Int32.toInt ((x2 &&& ((m.1 (x0 + 6) (Int32.toNatClampNeg x1)) ^^^ (-1 : Int32))) &&& (m.1 (x0 + 7) (Int32.toNatClampNeg x1)))) = 0 then (0 : Int32) else (1 : Int32))
set_option maxHeartbeats 8000000 in
theorem k_X10_isUnsafe {u : Nat} {N : Nat} {Φ : Int32 → Option Value → dc_M → Prop} (x0 : Nat) (x1 : Int32) (x2 : Int32) (m : dc_M) (kR : ∀ (v : Int32), Φ (v) (some (.int v)) m)  {lv : ab_L} (f0 : ab_lk lv 0 = some (.ref x0)) (f1 : ab_lk lv 1 = some (.int x1)) (f2 : ab_lk lv 2 = some (.int x2)) : dc_pv u N ab_M_X10_isUnsafe 0 lv [] m (Φ (d_X10_isUnsafe x0 x1 x2 m)) := by
  refine dc_pv.mono (dc_ok (C := C_X10_isUnsafe) (S := S_X10_isUnsafe) CO_X10_isUnsafe 400 0 [(0, .ref x0), (1, .int x1), (2, .int x2)] lv [] m (dc_sub_cons f0 (dc_sub_cons f1 (dc_sub_cons f2 (dc_sub_nil)))) ?_) (Nat.le_succ N)
  unfold d_X10_isUnsafe
  refine dg_s (pc' := 1) [.int x2] rfl (fun _ => rfl) rfl ?_
  refine dg_s (pc' := 2) [.ref x0, .int x2] rfl (fun _ => rfl) rfl ?_
  refine dg_s (pc' := 5) [.ref (x0 + 6), .int x2] rfl (fun _ => rfl) rfl ?_
  refine dg_s (pc' := 6) [.int x1, .ref (x0 + 6), .int x2] rfl (fun _ => rfl) rfl ?_
  refine dg_s (pc' := 7) [.int (m.1 (x0 + 6) (Int32.toNatClampNeg x1)), .int x2] rfl (fun _ => rfl) rfl ?_
  refine dg_s (pc' := 8) [.int (-1 : Int32), .int (m.1 (x0 + 6) (Int32.toNatClampNeg x1)), .int x2] rfl (fun _ => rfl) rfl ?_
  refine dg_s (pc' := 9) [.int ((m.1 (x0 + 6) (Int32.toNatClampNeg x1)) ^^^ (-1 : Int32)), .int x2] rfl (fun _ => rfl) rfl ?_
  refine dg_s (pc' := 10) [.int (x2 &&& ((m.1 (x0 + 6) (Int32.toNatClampNeg x1)) ^^^ (-1 : Int32)))] rfl (fun _ => rfl) rfl ?_
  refine dg_s (pc' := 11) [.ref x0, .int (x2 &&& ((m.1 (x0 + 6) (Int32.toNatClampNeg x1)) ^^^ (-1 : Int32)))] rfl (fun _ => rfl) rfl ?_
  refine dg_s (pc' := 14) [.ref (x0 + 7), .int (x2 &&& ((m.1 (x0 + 6) (Int32.toNatClampNeg x1)) ^^^ (-1 : Int32)))] rfl (fun _ => rfl) rfl ?_
  refine dg_s (pc' := 15) [.int x1, .ref (x0 + 7), .int (x2 &&& ((m.1 (x0 + 6) (Int32.toNatClampNeg x1)) ^^^ (-1 : Int32)))] rfl (fun _ => rfl) rfl ?_
  refine dg_s (pc' := 16) [.int (m.1 (x0 + 7) (Int32.toNatClampNeg x1)), .int (x2 &&& ((m.1 (x0 + 6) (Int32.toNatClampNeg x1)) ^^^ (-1 : Int32)))] rfl (fun _ => rfl) rfl ?_
  refine dg_s (pc' := 17) [.int ((x2 &&& ((m.1 (x0 + 6) (Int32.toNatClampNeg x1)) ^^^ (-1 : Int32))) &&& (m.1 (x0 + 7) (Int32.toNatClampNeg x1)))] rfl (fun _ => rfl) rfl ?_
  refine dw_if (fun t => Φ t) ((Int32.toInt ((x2 &&& ((m.1 (x0 + 6) (Int32.toNatClampNeg x1)) ^^^ (-1 : Int32))) &&& (m.1 (x0 + 7) (Int32.toNatClampNeg x1)))) = 0) [] 24 20 rfl (fun _ => rfl) (fun c0 => ?_) (fun c0 => ?_)
  · refine dw_g rfl ?_
    refine dg_s (pc' := 25) [.int (0 : Int32)] rfl (fun _ => rfl) rfl ?_
    exact dw_r (some (.inl (some (.int (0 : Int32)), m))) rfl (fun _ => rfl) (kR _)
  · refine dw_g rfl ?_
    refine dg_s (pc' := 21) [.int (1 : Int32)] rfl (fun _ => rfl) rfl ?_
    refine dg_s (pc' := 25) [.int (1 : Int32)] rfl (fun _ => rfl) rfl ?_
    exact dw_r (some (.inl (some (.int (1 : Int32)), m))) rfl (fun _ => rfl) (kR _)
def H_X10_isUnsafe : dc_H := fun As m k => match As with
  | [.ref x0, .int x1, .int x2] => k (some (.int (d_X10_isUnsafe x0 x1 x2 m))) m
  | _ => dc_kz
theorem H_X10_isUnsafe_ok {u : Nat} : dc_cok u 170 H_X10_isUnsafe := fun M' hG N As m k P hz hP => by
  obtain rfl : ab_M_X10_isUnsafe = M' := Option.some.inj hG
  unfold H_X10_isUnsafe at hP
  split at hP
  · rename_i x0 x1 x2
    exact dc_pv.imp (k_X10_isUnsafe (Φ := fun (t : Int32) r m' => P (k (some (.int t)) m) → P (k r m')) x0 x1 x2 m (fun _  h => h) rfl rfl rfl) (fun r m' h => h hP)
  · exact absurd hP hz
def C_X10_stateOf : List (Nat × dc_H) := []
theorem CO_X10_stateOf {u : Nat} : dc_CO u C_X10_stateOf := dc_CO_nil
def S_X10_stateOf : List (Nat × List Nat) := [(2, [0, 1, 2])]
noncomputable def d_X10_stateOf_l2b (x0 : Nat) (x1 : Int32) (x2 : Int32) (m : dc_M) : Option (Int32 ⊕ Int32) :=
  (if (Int32.toInt (m.1 x0 32)) ≤ (Int32.toInt x2) then some (Sum.inr (x2)) else (if (Int32.toInt (m.1 (x0 + 17) (Int32.toNatClampNeg x2))) = (Int32.toInt x1) then some (Sum.inr (x2)) else some (Sum.inl (x2 + (1 : Int32)))))
noncomputable def d_X10_stateOf_l2s (x0 : Nat) (x1 : Int32) (m : dc_M) : Int32 → Option (Int32 ⊕ Int32) := fun s => d_X10_stateOf_l2b x0 x1 s m
noncomputable def d_X10_stateOf_l2 (x0 : Nat) (x1 : Int32) (x2 : Int32) (m : dc_M) : Option Int32 := dc_lp (d_X10_stateOf_l2s x0 x1 m) x2
set_option maxHeartbeats 8000000 in
theorem k_X10_stateOf_l2 {u : Nat} {Φ : (Option Int32) → Option Value → dc_M → Prop} (x0 : Nat) (x1 : Int32) (m : dc_M) (kR : ∀ (v : Int32), Φ (some (v)) (some (.int v)) m) : ∀ (N : Nat), ∀ (x2 : Int32) (lv : ab_L), ab_lk lv 0 = some (.ref x0) → ab_lk lv 1 = some (.int x1) → ab_lk lv 2 = some (.int x2) → dc_pv u N ab_M_X10_stateOf 2 lv [] m (Φ (d_X10_stateOf_l2 x0 x1 x2 m)) := by
  intro N
  induction N with
  | zero => intros; exact dc_pv_zero
  | succ N ih =>
    intro x2 lv f0 f1 f2
    refine dc_ok (C := C_X10_stateOf) (S := S_X10_stateOf) CO_X10_stateOf 400 2 [(0, .ref x0), (1, .int x1), (2, .int x2)] lv [] m (dc_sub_cons f0 (dc_sub_cons f1 (dc_sub_cons f2 (dc_sub_nil)))) ?_
    unfold d_X10_stateOf_l2
    rw [dc_lp_eq]
    show (fun t x => dc_lf u N ab_M_X10_stateOf (Φ (Option.bind t (dc_bk (d_X10_stateOf_l2s x0 x1 m)))) x) (d_X10_stateOf_l2b x0 x1 x2 m) _
    dsimp only
    unfold d_X10_stateOf_l2b
    refine dg_s (pc' := 3) [.int x2] rfl (fun _ => rfl) rfl ?_
    refine dg_s (pc' := 4) [.ref x0, .int x2] rfl (fun _ => rfl) rfl ?_
    refine dg_s (pc' := 7) [.int (m.1 x0 32), .int x2] rfl (fun _ => rfl) rfl ?_
    refine dw_if (fun t => Φ (Option.bind t (dc_bk (d_X10_stateOf_l2s x0 x1 m)))) ((Int32.toInt (m.1 x0 32)) ≤ (Int32.toInt x2)) [] 26 10 rfl (fun _ => rfl) (fun c0 => ?_) (fun c0 => ?_)
    · refine dw_g rfl ?_
      refine dg_s (pc' := 27) [.int x2] rfl (fun _ => rfl) rfl ?_
      exact dw_r (some (.inl (some (.int x2), m))) rfl (fun _ => rfl) (kR _)
    · refine dw_g rfl ?_
      refine dg_s (pc' := 11) [.ref x0] rfl (fun _ => rfl) rfl ?_
      refine dg_s (pc' := 14) [.ref (x0 + 17)] rfl (fun _ => rfl) rfl ?_
      refine dg_s (pc' := 15) [.int x2, .ref (x0 + 17)] rfl (fun _ => rfl) rfl ?_
      refine dg_s (pc' := 16) [.int (m.1 (x0 + 17) (Int32.toNatClampNeg x2))] rfl (fun _ => rfl) rfl ?_
      refine dg_s (pc' := 17) [.int x1, .int (m.1 (x0 + 17) (Int32.toNatClampNeg x2))] rfl (fun _ => rfl) rfl ?_
      refine dw_if (fun t => Φ (Option.bind t (dc_bk (d_X10_stateOf_l2s x0 x1 m)))) ((Int32.toInt (m.1 (x0 + 17) (Int32.toNatClampNeg x2))) = (Int32.toInt x1)) [] 26 20 rfl (fun _ => rfl) (fun c1 => ?_) (fun c1 => ?_)
      · refine dw_g rfl ?_
        refine dg_s (pc' := 27) [.int x2] rfl (fun _ => rfl) rfl ?_
        exact dw_r (some (.inl (some (.int x2), m))) rfl (fun _ => rfl) (kR _)
      · refine dw_g rfl ?_
        refine dg_L (pc' := 23) [(2, .int (x2 + (1 : Int32))), (0, .ref x0), (1, .int x1)] [] rfl (fun _ => rfl) rfl ?_
        refine dw_s (pc' := 2) [] rfl (fun _ => rfl) ?_
        exact dw_j rfl (fun lv1 hv => ih (x2 + (1 : Int32)) lv1 (hv.1 _ rfl) (hv.2.1 _ rfl) (hv.2.2.1 _ rfl))
noncomputable def d_X10_stateOf (x0 : Nat) (x1 : Int32) (m : dc_M) : Option Int32 :=
  (d_X10_stateOf_l2 x0 x1 (0 : Int32) m)
set_option maxHeartbeats 8000000 in
theorem k_X10_stateOf {u : Nat} {N : Nat} {Φ : (Option Int32) → Option Value → dc_M → Prop} (x0 : Nat) (x1 : Int32) (m : dc_M) (kR : ∀ (v : Int32), Φ (some (v)) (some (.int v)) m)  {lv : ab_L} (f0 : ab_lk lv 0 = some (.ref x0)) (f1 : ab_lk lv 1 = some (.int x1)) : dc_pv u N ab_M_X10_stateOf 0 lv [] m (Φ (d_X10_stateOf x0 x1 m)) := by
  refine dc_pv.mono (dc_ok (C := C_X10_stateOf) (S := S_X10_stateOf) CO_X10_stateOf 400 0 [(0, .ref x0), (1, .int x1)] lv [] m (dc_sub_cons f0 (dc_sub_cons f1 (dc_sub_nil))) ?_) (Nat.le_succ N)
  unfold d_X10_stateOf
  refine dg_s (pc' := 1) [.int (0 : Int32)] rfl (fun _ => rfl) rfl ?_
  refine dw_L (pc' := 2) [(2, .int (0 : Int32)), (0, .ref x0), (1, .int x1)] [] rfl (fun _ => rfl) ?_
  exact dw_j rfl (fun lv1 hv => k_X10_stateOf_l2 (Φ := (fun t => Φ t)) x0 x1 m (fun _a  => kR _a) N  (0 : Int32) lv1 (hv.1 _ rfl) (hv.2.1 _ rfl) (hv.2.2.1 _ rfl))
noncomputable def H_X10_stateOf : dc_H := fun As m k => match As with
  | [.ref x0, .int x1] => (d_X10_stateOf x0 x1 m).bind (fun q => k (some (.int q)) m)
  | _ => dc_kz
theorem H_X10_stateOf_ok {u : Nat} : dc_cok u 172 H_X10_stateOf := fun M' hG N As m k P hz hP => by
  obtain rfl : ab_M_X10_stateOf = M' := Option.some.inj hG
  unfold H_X10_stateOf at hP
  split at hP
  · rename_i x0 x1
    exact dc_pv.imp (k_X10_stateOf (Φ := fun (t : Option Int32) r m' => P (t.bind (fun q => k (some (.int q)) m)) → P (k r m')) x0 x1 m (fun _  h => h) rfl rfl) (fun r m' h => h hP)
  · exact absurd hP hz
noncomputable def C_X10_layStates : List (Nat × dc_H) := [(171, H_X10_after), (169, H_X10_isReady), (170, H_X10_isUnsafe), (172, H_X10_stateOf)]
theorem CO_X10_layStates {u : Nat} : dc_CO u C_X10_layStates := dc_CO_cons H_X10_after_ok (dc_CO_cons H_X10_isReady_ok (dc_CO_cons H_X10_isUnsafe_ok (dc_CO_cons H_X10_stateOf_ok (dc_CO_nil))))
def S_X10_layStates : List (Nat × List Nat) := [(22, [0, 1]), (32, [0, 1, 2])]
noncomputable def d_X10_layStates_l32b (x0 : Nat) (x1 : Int32) (x2 : Int32) (m : dc_M) : Option ((Int32 × dc_M) ⊕ ((Int32 × dc_M) ⊕ (Int32 × dc_M))) :=
  (if (Int32.toInt (m.1 x0 3)) ≤ (Int32.toInt x2) then some (Sum.inr (Sum.inl ((x1 + (1 : Int32)), m))) else (if (Int32.toInt (d_X10_isReady x0 x2 ((dc_wi m (x0 + 18) (Int32.toNatClampNeg (((16 : Int32) * x1) + x2)) (-4 : Int32)).1 (x0 + 17) (Int32.toNatClampNeg x1)) (dc_wi m (x0 + 18) (Int32.toNatClampNeg (((16 : Int32) * x1) + x2)) (-4 : Int32)))) = 0 then some (Sum.inl ((x2 + (1 : Int32)), (dc_wi m (x0 + 18) (Int32.toNatClampNeg (((16 : Int32) * x1) + x2)) (-4 : Int32)))) else (if (Int32.toInt (d_X10_isUnsafe x0 x2 ((dc_wi m (x0 + 18) (Int32.toNatClampNeg (((16 : Int32) * x1) + x2)) (-4 : Int32)).1 (x0 + 17) (Int32.toNatClampNeg x1)) (dc_wi m (x0 + 18) (Int32.toNatClampNeg (((16 : Int32) * x1) + x2)) (-4 : Int32)))) = 0 then ((d_X10_stateOf x0 (d_X10_after x0 x2 ((dc_wi m (x0 + 18) (Int32.toNatClampNeg (((16 : Int32) * x1) + x2)) (-4 : Int32)).1 (x0 + 17) (Int32.toNatClampNeg x1)) (dc_wi m (x0 + 18) (Int32.toNatClampNeg (((16 : Int32) * x1) + x2)) (-4 : Int32))) (dc_wi m (x0 + 18) (Int32.toNatClampNeg (((16 : Int32) * x1) + x2)) (-4 : Int32))).bind (fun q1 => (if ¬ (Int32.toInt q1) = 200 then (if ¬ (Int32.toInt q1) = (Int32.toInt ((dc_wi m (x0 + 18) (Int32.toNatClampNeg (((16 : Int32) * x1) + x2)) (-4 : Int32)).1 x0 32)) then some (Sum.inl ((x2 + (1 : Int32)), (dc_wi (dc_wi m (x0 + 18) (Int32.toNatClampNeg (((16 : Int32) * x1) + x2)) (-4 : Int32)) (x0 + 18) (Int32.toNatClampNeg (((16 : Int32) * x1) + x2)) q1))) else some (Sum.inl ((x2 + (1 : Int32)), (dc_wi (dc_wi (dc_wi (dc_wi m (x0 + 18) (Int32.toNatClampNeg (((16 : Int32) * x1) + x2)) (-4 : Int32)) (x0 + 17) (Int32.toNatClampNeg q1) (d_X10_after x0 x2 ((dc_wi m (x0 + 18) (Int32.toNatClampNeg (((16 : Int32) * x1) + x2)) (-4 : Int32)).1 (x0 + 17) (Int32.toNatClampNeg x1)) (dc_wi m (x0 + 18) (Int32.toNatClampNeg (((16 : Int32) * x1) + x2)) (-4 : Int32)))) x0 32 (((dc_wi (dc_wi m (x0 + 18) (Int32.toNatClampNeg (((16 : Int32) * x1) + x2)) (-4 : Int32)) (x0 + 17) (Int32.toNatClampNeg q1) (d_X10_after x0 x2 ((dc_wi m (x0 + 18) (Int32.toNatClampNeg (((16 : Int32) * x1) + x2)) (-4 : Int32)).1 (x0 + 17) (Int32.toNatClampNeg x1)) (dc_wi m (x0 + 18) (Int32.toNatClampNeg (((16 : Int32) * x1) + x2)) (-4 : Int32)))).1 x0 32) + (1 : Int32))) (x0 + 18) (Int32.toNatClampNeg (((16 : Int32) * x1) + x2)) q1)))) else some (Sum.inr (Sum.inr ((((dc_wi (dc_wi m (x0 + 18) (Int32.toNatClampNeg (((16 : Int32) * x1) + x2)) (-4 : Int32)) x0 33 (-6 : Int32)).1 x0 33), (dc_wi (dc_wi m (x0 + 18) (Int32.toNatClampNeg (((16 : Int32) * x1) + x2)) (-4 : Int32)) x0 33 (-6 : Int32))))))))) else some (Sum.inr (Sum.inr ((((dc_wi (dc_wi m (x0 + 18) (Int32.toNatClampNeg (((16 : Int32) * x1) + x2)) (-4 : Int32)) x0 33 (-2 : Int32)).1 x0 33), (dc_wi (dc_wi m (x0 + 18) (Int32.toNatClampNeg (((16 : Int32) * x1) + x2)) (-4 : Int32)) x0 33 (-2 : Int32)))))))))
noncomputable def d_X10_layStates_l32s (x0 : Nat) (x1 : Int32) : (Int32 × dc_M) → Option ((Int32 × dc_M) ⊕ ((Int32 × dc_M) ⊕ (Int32 × dc_M))) := fun s => d_X10_layStates_l32b x0 x1 s.1 s.2
noncomputable def d_X10_layStates_l32 (x0 : Nat) (x1 : Int32) (x2 : Int32) (m : dc_M) : Option ((Int32 × dc_M) ⊕ (Int32 × dc_M)) := dc_lp (d_X10_layStates_l32s x0 x1) (x2, m)
set_option maxHeartbeats 8000000 in
theorem k_X10_layStates_l32 {u : Nat} {Φ : (Option ((Int32 × dc_M) ⊕ (Int32 × dc_M))) → Option Value → dc_M → Prop} (x0 : Nat) (x1 : Int32) (kR : ∀ (v : Int32) (m : dc_M), Φ (some (Sum.inr ((v, m)))) (some (.int v)) m) : ∀ (N : Nat), (∀ (x1 : Int32) (m : dc_M) (lv : ab_L), ab_lk lv 0 = some (.ref x0) → ab_lk lv 1 = some (.int x1) →  dc_pv u N ab_M_X10_layStates 22 lv [] m (Φ (some (Sum.inl (x1, m))))) → ∀ (x2 : Int32) (m : dc_M) (lv : ab_L), ab_lk lv 0 = some (.ref x0) → ab_lk lv 1 = some (.int x1) → ab_lk lv 2 = some (.int x2) → dc_pv u N ab_M_X10_layStates 32 lv [] m (Φ (d_X10_layStates_l32 x0 x1 x2 m)) := by
  intro N
  induction N with
  | zero => intros; exact dc_pv_zero
  | succ N ih =>
    intro k22 x2 m lv f0 f1 f2
    have k22 := fun a0 a1 a2 a3 a4 => (k22 a0 a1 a2 a3 a4).mono (Nat.le_succ N)
    have ih := ih k22
    refine dc_ok (C := C_X10_layStates) (S := S_X10_layStates) CO_X10_layStates 400 32 [(0, .ref x0), (1, .int x1), (2, .int x2)] lv [] m (dc_sub_cons f0 (dc_sub_cons f1 (dc_sub_cons f2 (dc_sub_nil)))) ?_
    unfold d_X10_layStates_l32
    rw [dc_lp_eq]
    show (fun t x => dc_lf u N ab_M_X10_layStates (Φ (Option.bind t (dc_bk (d_X10_layStates_l32s x0 x1)))) x) (d_X10_layStates_l32b x0 x1 x2 m) _
    dsimp only
    unfold d_X10_layStates_l32b
    refine dg_s (pc' := 33) [.int x2] rfl (fun _ => rfl) rfl ?_
    refine dg_s (pc' := 34) [.ref x0, .int x2] rfl (fun _ => rfl) rfl ?_
    refine dg_s (pc' := 37) [.int (m.1 x0 3), .int x2] rfl (fun _ => rfl) rfl ?_
    refine dw_if (fun t => Φ (Option.bind t (dc_bk (d_X10_layStates_l32s x0 x1)))) ((Int32.toInt (m.1 x0 3)) ≤ (Int32.toInt x2)) [] 176 40 rfl (fun _ => rfl) (fun c0 => ?_) (fun c0 => ?_)
    · refine dw_g rfl ?_
      refine dg_L (pc' := 179) [(1, .int (x1 + (1 : Int32))), (0, .ref x0), (2, .int x2)] [] rfl (fun _ => rfl) rfl ?_
      refine dw_s (pc' := 22) [] rfl (fun _ => rfl) ?_
      exact dw_j rfl (fun lv1 hv => k22 (x1 + (1 : Int32)) m lv1 (hv.1 _ rfl) (hv.2.1 _ rfl))
    · refine dw_g rfl ?_
      refine dg_s (pc' := 41) [.ref x0] rfl (fun _ => rfl) rfl ?_
      refine dg_s (pc' := 44) [.ref (x0 + 18)] rfl (fun _ => rfl) rfl ?_
      refine dg_s (pc' := 46) [.int (16 : Int32), .ref (x0 + 18)] rfl (fun _ => rfl) rfl ?_
      refine dg_s (pc' := 47) [.int x1, .int (16 : Int32), .ref (x0 + 18)] rfl (fun _ => rfl) rfl ?_
      refine dg_s (pc' := 48) [.int ((16 : Int32) * x1), .ref (x0 + 18)] rfl (fun _ => rfl) rfl ?_
      refine dg_s (pc' := 49) [.int x2, .int ((16 : Int32) * x1), .ref (x0 + 18)] rfl (fun _ => rfl) rfl ?_
      refine dg_s (pc' := 50) [.int (((16 : Int32) * x1) + x2), .ref (x0 + 18)] rfl (fun _ => rfl) rfl ?_
      refine dg_s (pc' := 52) [.int (-4 : Int32), .int (((16 : Int32) * x1) + x2), .ref (x0 + 18)] rfl (fun _ => rfl) rfl ?_
      refine dg_m (pc' := 53) (dc_wi m (x0 + 18) (Int32.toNatClampNeg (((16 : Int32) * x1) + x2)) (-4 : Int32)) [] rfl (fun _ => rfl) rfl ?_
      refine dg_s (pc' := 54) [.ref x0] rfl (fun _ => rfl) rfl ?_
      refine dg_s (pc' := 55) [.int x2, .ref x0] rfl (fun _ => rfl) rfl ?_
      refine dg_s (pc' := 56) [.ref x0, .int x2, .ref x0] rfl (fun _ => rfl) rfl ?_
      refine dg_s (pc' := 59) [.ref (x0 + 17), .int x2, .ref x0] rfl (fun _ => rfl) rfl ?_
      refine dg_s (pc' := 60) [.int x1, .ref (x0 + 17), .int x2, .ref x0] rfl (fun _ => rfl) rfl ?_
      refine dg_s (pc' := 61) [.int ((dc_wi m (x0 + 18) (Int32.toNatClampNeg (((16 : Int32) * x1) + x2)) (-4 : Int32)).1 (x0 + 17) (Int32.toNatClampNeg x1)), .int x2, .ref x0] rfl (fun _ => rfl) rfl ?_
      refine dg_s (pc' := 64) [.int (d_X10_isReady x0 x2 ((dc_wi m (x0 + 18) (Int32.toNatClampNeg (((16 : Int32) * x1) + x2)) (-4 : Int32)).1 (x0 + 17) (Int32.toNatClampNeg x1)) (dc_wi m (x0 + 18) (Int32.toNatClampNeg (((16 : Int32) * x1) + x2)) (-4 : Int32)))] rfl (fun _ => rfl) rfl ?_
      refine dw_if (fun t => Φ (Option.bind t (dc_bk (d_X10_layStates_l32s x0 x1)))) ((Int32.toInt (d_X10_isReady x0 x2 ((dc_wi m (x0 + 18) (Int32.toNatClampNeg (((16 : Int32) * x1) + x2)) (-4 : Int32)).1 (x0 + 17) (Int32.toNatClampNeg x1)) (dc_wi m (x0 + 18) (Int32.toNatClampNeg (((16 : Int32) * x1) + x2)) (-4 : Int32)))) = 0) [] 170 67 rfl (fun _ => rfl) (fun c1 => ?_) (fun c1 => ?_)
      · refine dw_g rfl ?_
        refine dg_L (pc' := 173) [(2, .int (x2 + (1 : Int32))), (0, .ref x0), (1, .int x1)] [] rfl (fun _ => rfl) rfl ?_
        refine dw_s (pc' := 32) [] rfl (fun _ => rfl) ?_
        exact dw_j rfl (fun lv1 hv => ih (x2 + (1 : Int32)) (dc_wi m (x0 + 18) (Int32.toNatClampNeg (((16 : Int32) * x1) + x2)) (-4 : Int32)) lv1 (hv.1 _ rfl) (hv.2.1 _ rfl) (hv.2.2.1 _ rfl))
      · refine dw_g rfl ?_
        refine dg_s (pc' := 68) [.ref x0] rfl (fun _ => rfl) rfl ?_
        refine dg_s (pc' := 69) [.int x2, .ref x0] rfl (fun _ => rfl) rfl ?_
        refine dg_s (pc' := 70) [.ref x0, .int x2, .ref x0] rfl (fun _ => rfl) rfl ?_
        refine dg_s (pc' := 73) [.ref (x0 + 17), .int x2, .ref x0] rfl (fun _ => rfl) rfl ?_
        refine dg_s (pc' := 74) [.int x1, .ref (x0 + 17), .int x2, .ref x0] rfl (fun _ => rfl) rfl ?_
        refine dg_s (pc' := 75) [.int ((dc_wi m (x0 + 18) (Int32.toNatClampNeg (((16 : Int32) * x1) + x2)) (-4 : Int32)).1 (x0 + 17) (Int32.toNatClampNeg x1)), .int x2, .ref x0] rfl (fun _ => rfl) rfl ?_
        refine dg_s (pc' := 78) [.int (d_X10_isUnsafe x0 x2 ((dc_wi m (x0 + 18) (Int32.toNatClampNeg (((16 : Int32) * x1) + x2)) (-4 : Int32)).1 (x0 + 17) (Int32.toNatClampNeg x1)) (dc_wi m (x0 + 18) (Int32.toNatClampNeg (((16 : Int32) * x1) + x2)) (-4 : Int32)))] rfl (fun _ => rfl) rfl ?_
        refine dw_if (fun t => Φ (Option.bind t (dc_bk (d_X10_layStates_l32s x0 x1)))) ((Int32.toInt (d_X10_isUnsafe x0 x2 ((dc_wi m (x0 + 18) (Int32.toNatClampNeg (((16 : Int32) * x1) + x2)) (-4 : Int32)).1 (x0 + 17) (Int32.toNatClampNeg x1)) (dc_wi m (x0 + 18) (Int32.toNatClampNeg (((16 : Int32) * x1) + x2)) (-4 : Int32)))) = 0) [] 92 81 rfl (fun _ => rfl) (fun c2 => ?_) (fun c2 => ?_)
        · refine dw_g rfl ?_
          refine dg_s (pc' := 93) [.ref x0] rfl (fun _ => rfl) rfl ?_
          refine dg_s (pc' := 94) [.int x2, .ref x0] rfl (fun _ => rfl) rfl ?_
          refine dg_s (pc' := 95) [.ref x0, .int x2, .ref x0] rfl (fun _ => rfl) rfl ?_
          refine dg_s (pc' := 98) [.ref (x0 + 17), .int x2, .ref x0] rfl (fun _ => rfl) rfl ?_
          refine dg_s (pc' := 99) [.int x1, .ref (x0 + 17), .int x2, .ref x0] rfl (fun _ => rfl) rfl ?_
          refine dg_s (pc' := 100) [.int ((dc_wi m (x0 + 18) (Int32.toNatClampNeg (((16 : Int32) * x1) + x2)) (-4 : Int32)).1 (x0 + 17) (Int32.toNatClampNeg x1)), .int x2, .ref x0] rfl (fun _ => rfl) rfl ?_
          refine dg_s (pc' := 103) [.int (d_X10_after x0 x2 ((dc_wi m (x0 + 18) (Int32.toNatClampNeg (((16 : Int32) * x1) + x2)) (-4 : Int32)).1 (x0 + 17) (Int32.toNatClampNeg x1)) (dc_wi m (x0 + 18) (Int32.toNatClampNeg (((16 : Int32) * x1) + x2)) (-4 : Int32)))] rfl (fun _ => rfl) rfl ?_
          refine dg_L (pc' := 104) [(3, .int (d_X10_after x0 x2 ((dc_wi m (x0 + 18) (Int32.toNatClampNeg (((16 : Int32) * x1) + x2)) (-4 : Int32)).1 (x0 + 17) (Int32.toNatClampNeg x1)) (dc_wi m (x0 + 18) (Int32.toNatClampNeg (((16 : Int32) * x1) + x2)) (-4 : Int32)))), (0, .ref x0), (1, .int x1), (2, .int x2)] [] rfl (fun _ => rfl) rfl ?_
          refine dg_s (pc' := 105) [.ref x0] rfl (fun _ => rfl) rfl ?_
          refine dg_s (pc' := 106) [.int (d_X10_after x0 x2 ((dc_wi m (x0 + 18) (Int32.toNatClampNeg (((16 : Int32) * x1) + x2)) (-4 : Int32)).1 (x0 + 17) (Int32.toNatClampNeg x1)) (dc_wi m (x0 + 18) (Int32.toNatClampNeg (((16 : Int32) * x1) + x2)) (-4 : Int32))), .ref x0] rfl (fun _ => rfl) rfl ?_
          refine dw_b (fun t => Φ (Option.bind t (dc_bk (d_X10_layStates_l32s x0 x1)))) (pc' := 109) (fun q1 => [.int q1]) (fun q1 => (dc_wi m (x0 + 18) (Int32.toNatClampNeg (((16 : Int32) * x1) + x2)) (-4 : Int32))) rfl (fun _ => rfl) (fun q1 => ?_)
          refine dw_g rfl ?_
          refine dg_L (pc' := 111) [(4, .int q1), (3, .int (d_X10_after x0 x2 ((dc_wi m (x0 + 18) (Int32.toNatClampNeg (((16 : Int32) * x1) + x2)) (-4 : Int32)).1 (x0 + 17) (Int32.toNatClampNeg x1)) (dc_wi m (x0 + 18) (Int32.toNatClampNeg (((16 : Int32) * x1) + x2)) (-4 : Int32)))), (0, .ref x0), (1, .int x1), (2, .int x2)] [] rfl (fun _ => rfl) rfl ?_
          refine dg_s (pc' := 113) [.int q1] rfl (fun _ => rfl) rfl ?_
          refine dg_s (pc' := 116) [.int (200 : Int32), .int q1] rfl (fun _ => rfl) rfl ?_
          refine dw_if (fun t => Φ (Option.bind t (dc_bk (d_X10_layStates_l32s x0 x1)))) (¬ (Int32.toInt q1) = 200) [] 130 119 rfl (fun _ => rfl) (fun c3 => ?_) (fun c3 => ?_)
          · refine dw_g rfl ?_
            refine dg_s (pc' := 132) [.int q1] rfl (fun _ => rfl) rfl ?_
            refine dg_s (pc' := 133) [.ref x0, .int q1] rfl (fun _ => rfl) rfl ?_
            refine dg_s (pc' := 136) [.int ((dc_wi m (x0 + 18) (Int32.toNatClampNeg (((16 : Int32) * x1) + x2)) (-4 : Int32)).1 x0 32), .int q1] rfl (fun _ => rfl) rfl ?_
            refine dw_if (fun t => Φ (Option.bind t (dc_bk (d_X10_layStates_l32s x0 x1)))) (¬ (Int32.toInt q1) = (Int32.toInt ((dc_wi m (x0 + 18) (Int32.toNatClampNeg (((16 : Int32) * x1) + x2)) (-4 : Int32)).1 x0 32))) [] 157 139 rfl (fun _ => rfl) (fun c4 => ?_) (fun c4 => ?_)
            · refine dw_g rfl ?_
              refine dg_s (pc' := 158) [.ref x0] rfl (fun _ => rfl) rfl ?_
              refine dg_s (pc' := 161) [.ref (x0 + 18)] rfl (fun _ => rfl) rfl ?_
              refine dg_s (pc' := 163) [.int (16 : Int32), .ref (x0 + 18)] rfl (fun _ => rfl) rfl ?_
              refine dg_s (pc' := 164) [.int x1, .int (16 : Int32), .ref (x0 + 18)] rfl (fun _ => rfl) rfl ?_
              refine dg_s (pc' := 165) [.int ((16 : Int32) * x1), .ref (x0 + 18)] rfl (fun _ => rfl) rfl ?_
              refine dg_s (pc' := 166) [.int x2, .int ((16 : Int32) * x1), .ref (x0 + 18)] rfl (fun _ => rfl) rfl ?_
              refine dg_s (pc' := 167) [.int (((16 : Int32) * x1) + x2), .ref (x0 + 18)] rfl (fun _ => rfl) rfl ?_
              refine dg_s (pc' := 169) [.int q1, .int (((16 : Int32) * x1) + x2), .ref (x0 + 18)] rfl (fun _ => rfl) rfl ?_
              refine dg_m (pc' := 170) (dc_wi (dc_wi m (x0 + 18) (Int32.toNatClampNeg (((16 : Int32) * x1) + x2)) (-4 : Int32)) (x0 + 18) (Int32.toNatClampNeg (((16 : Int32) * x1) + x2)) q1) [] rfl (fun _ => rfl) rfl ?_
              refine dg_L (pc' := 173) [(2, .int (x2 + (1 : Int32))), (4, .int q1), (3, .int (d_X10_after x0 x2 ((dc_wi m (x0 + 18) (Int32.toNatClampNeg (((16 : Int32) * x1) + x2)) (-4 : Int32)).1 (x0 + 17) (Int32.toNatClampNeg x1)) (dc_wi m (x0 + 18) (Int32.toNatClampNeg (((16 : Int32) * x1) + x2)) (-4 : Int32)))), (0, .ref x0), (1, .int x1)] [] rfl (fun _ => rfl) rfl ?_
              refine dw_s (pc' := 32) [] rfl (fun _ => rfl) ?_
              exact dw_j rfl (fun lv1 hv => ih (x2 + (1 : Int32)) (dc_wi (dc_wi m (x0 + 18) (Int32.toNatClampNeg (((16 : Int32) * x1) + x2)) (-4 : Int32)) (x0 + 18) (Int32.toNatClampNeg (((16 : Int32) * x1) + x2)) q1) lv1 (hv.1 _ rfl) (hv.2.1 _ rfl) (hv.2.2.1 _ rfl))
            · refine dw_g rfl ?_
              refine dg_s (pc' := 140) [.ref x0] rfl (fun _ => rfl) rfl ?_
              refine dg_s (pc' := 143) [.ref (x0 + 17)] rfl (fun _ => rfl) rfl ?_
              refine dg_s (pc' := 145) [.int q1, .ref (x0 + 17)] rfl (fun _ => rfl) rfl ?_
              refine dg_s (pc' := 146) [.int (d_X10_after x0 x2 ((dc_wi m (x0 + 18) (Int32.toNatClampNeg (((16 : Int32) * x1) + x2)) (-4 : Int32)).1 (x0 + 17) (Int32.toNatClampNeg x1)) (dc_wi m (x0 + 18) (Int32.toNatClampNeg (((16 : Int32) * x1) + x2)) (-4 : Int32))), .int q1, .ref (x0 + 17)] rfl (fun _ => rfl) rfl ?_
              refine dg_m (pc' := 147) (dc_wi (dc_wi m (x0 + 18) (Int32.toNatClampNeg (((16 : Int32) * x1) + x2)) (-4 : Int32)) (x0 + 17) (Int32.toNatClampNeg q1) (d_X10_after x0 x2 ((dc_wi m (x0 + 18) (Int32.toNatClampNeg (((16 : Int32) * x1) + x2)) (-4 : Int32)).1 (x0 + 17) (Int32.toNatClampNeg x1)) (dc_wi m (x0 + 18) (Int32.toNatClampNeg (((16 : Int32) * x1) + x2)) (-4 : Int32)))) [] rfl (fun _ => rfl) rfl ?_
              refine dg_s (pc' := 148) [.ref x0] rfl (fun _ => rfl) rfl ?_
              refine dg_s (pc' := 149) [.ref x0, .ref x0] rfl (fun _ => rfl) rfl ?_
              refine dg_s (pc' := 152) [.int ((dc_wi (dc_wi m (x0 + 18) (Int32.toNatClampNeg (((16 : Int32) * x1) + x2)) (-4 : Int32)) (x0 + 17) (Int32.toNatClampNeg q1) (d_X10_after x0 x2 ((dc_wi m (x0 + 18) (Int32.toNatClampNeg (((16 : Int32) * x1) + x2)) (-4 : Int32)).1 (x0 + 17) (Int32.toNatClampNeg x1)) (dc_wi m (x0 + 18) (Int32.toNatClampNeg (((16 : Int32) * x1) + x2)) (-4 : Int32)))).1 x0 32), .ref x0] rfl (fun _ => rfl) rfl ?_
              refine dg_s (pc' := 153) [.int (1 : Int32), .int ((dc_wi (dc_wi m (x0 + 18) (Int32.toNatClampNeg (((16 : Int32) * x1) + x2)) (-4 : Int32)) (x0 + 17) (Int32.toNatClampNeg q1) (d_X10_after x0 x2 ((dc_wi m (x0 + 18) (Int32.toNatClampNeg (((16 : Int32) * x1) + x2)) (-4 : Int32)).1 (x0 + 17) (Int32.toNatClampNeg x1)) (dc_wi m (x0 + 18) (Int32.toNatClampNeg (((16 : Int32) * x1) + x2)) (-4 : Int32)))).1 x0 32), .ref x0] rfl (fun _ => rfl) rfl ?_
              refine dg_s (pc' := 154) [.int (((dc_wi (dc_wi m (x0 + 18) (Int32.toNatClampNeg (((16 : Int32) * x1) + x2)) (-4 : Int32)) (x0 + 17) (Int32.toNatClampNeg q1) (d_X10_after x0 x2 ((dc_wi m (x0 + 18) (Int32.toNatClampNeg (((16 : Int32) * x1) + x2)) (-4 : Int32)).1 (x0 + 17) (Int32.toNatClampNeg x1)) (dc_wi m (x0 + 18) (Int32.toNatClampNeg (((16 : Int32) * x1) + x2)) (-4 : Int32)))).1 x0 32) + (1 : Int32)), .ref x0] rfl (fun _ => rfl) rfl ?_
              refine dg_m (pc' := 157) (dc_wi (dc_wi (dc_wi m (x0 + 18) (Int32.toNatClampNeg (((16 : Int32) * x1) + x2)) (-4 : Int32)) (x0 + 17) (Int32.toNatClampNeg q1) (d_X10_after x0 x2 ((dc_wi m (x0 + 18) (Int32.toNatClampNeg (((16 : Int32) * x1) + x2)) (-4 : Int32)).1 (x0 + 17) (Int32.toNatClampNeg x1)) (dc_wi m (x0 + 18) (Int32.toNatClampNeg (((16 : Int32) * x1) + x2)) (-4 : Int32)))) x0 32 (((dc_wi (dc_wi m (x0 + 18) (Int32.toNatClampNeg (((16 : Int32) * x1) + x2)) (-4 : Int32)) (x0 + 17) (Int32.toNatClampNeg q1) (d_X10_after x0 x2 ((dc_wi m (x0 + 18) (Int32.toNatClampNeg (((16 : Int32) * x1) + x2)) (-4 : Int32)).1 (x0 + 17) (Int32.toNatClampNeg x1)) (dc_wi m (x0 + 18) (Int32.toNatClampNeg (((16 : Int32) * x1) + x2)) (-4 : Int32)))).1 x0 32) + (1 : Int32))) [] rfl (fun _ => rfl) rfl ?_
              refine dg_s (pc' := 158) [.ref x0] rfl (fun _ => rfl) rfl ?_
              refine dg_s (pc' := 161) [.ref (x0 + 18)] rfl (fun _ => rfl) rfl ?_
              refine dg_s (pc' := 163) [.int (16 : Int32), .ref (x0 + 18)] rfl (fun _ => rfl) rfl ?_
              refine dg_s (pc' := 164) [.int x1, .int (16 : Int32), .ref (x0 + 18)] rfl (fun _ => rfl) rfl ?_
              refine dg_s (pc' := 165) [.int ((16 : Int32) * x1), .ref (x0 + 18)] rfl (fun _ => rfl) rfl ?_
              refine dg_s (pc' := 166) [.int x2, .int ((16 : Int32) * x1), .ref (x0 + 18)] rfl (fun _ => rfl) rfl ?_
              refine dg_s (pc' := 167) [.int (((16 : Int32) * x1) + x2), .ref (x0 + 18)] rfl (fun _ => rfl) rfl ?_
              refine dg_s (pc' := 169) [.int q1, .int (((16 : Int32) * x1) + x2), .ref (x0 + 18)] rfl (fun _ => rfl) rfl ?_
              refine dg_m (pc' := 170) (dc_wi (dc_wi (dc_wi (dc_wi m (x0 + 18) (Int32.toNatClampNeg (((16 : Int32) * x1) + x2)) (-4 : Int32)) (x0 + 17) (Int32.toNatClampNeg q1) (d_X10_after x0 x2 ((dc_wi m (x0 + 18) (Int32.toNatClampNeg (((16 : Int32) * x1) + x2)) (-4 : Int32)).1 (x0 + 17) (Int32.toNatClampNeg x1)) (dc_wi m (x0 + 18) (Int32.toNatClampNeg (((16 : Int32) * x1) + x2)) (-4 : Int32)))) x0 32 (((dc_wi (dc_wi m (x0 + 18) (Int32.toNatClampNeg (((16 : Int32) * x1) + x2)) (-4 : Int32)) (x0 + 17) (Int32.toNatClampNeg q1) (d_X10_after x0 x2 ((dc_wi m (x0 + 18) (Int32.toNatClampNeg (((16 : Int32) * x1) + x2)) (-4 : Int32)).1 (x0 + 17) (Int32.toNatClampNeg x1)) (dc_wi m (x0 + 18) (Int32.toNatClampNeg (((16 : Int32) * x1) + x2)) (-4 : Int32)))).1 x0 32) + (1 : Int32))) (x0 + 18) (Int32.toNatClampNeg (((16 : Int32) * x1) + x2)) q1) [] rfl (fun _ => rfl) rfl ?_
              refine dg_L (pc' := 173) [(2, .int (x2 + (1 : Int32))), (4, .int q1), (3, .int (d_X10_after x0 x2 ((dc_wi m (x0 + 18) (Int32.toNatClampNeg (((16 : Int32) * x1) + x2)) (-4 : Int32)).1 (x0 + 17) (Int32.toNatClampNeg x1)) (dc_wi m (x0 + 18) (Int32.toNatClampNeg (((16 : Int32) * x1) + x2)) (-4 : Int32)))), (0, .ref x0), (1, .int x1)] [] rfl (fun _ => rfl) rfl ?_
              refine dw_s (pc' := 32) [] rfl (fun _ => rfl) ?_
              exact dw_j rfl (fun lv1 hv => ih (x2 + (1 : Int32)) (dc_wi (dc_wi (dc_wi (dc_wi m (x0 + 18) (Int32.toNatClampNeg (((16 : Int32) * x1) + x2)) (-4 : Int32)) (x0 + 17) (Int32.toNatClampNeg q1) (d_X10_after x0 x2 ((dc_wi m (x0 + 18) (Int32.toNatClampNeg (((16 : Int32) * x1) + x2)) (-4 : Int32)).1 (x0 + 17) (Int32.toNatClampNeg x1)) (dc_wi m (x0 + 18) (Int32.toNatClampNeg (((16 : Int32) * x1) + x2)) (-4 : Int32)))) x0 32 (((dc_wi (dc_wi m (x0 + 18) (Int32.toNatClampNeg (((16 : Int32) * x1) + x2)) (-4 : Int32)) (x0 + 17) (Int32.toNatClampNeg q1) (d_X10_after x0 x2 ((dc_wi m (x0 + 18) (Int32.toNatClampNeg (((16 : Int32) * x1) + x2)) (-4 : Int32)).1 (x0 + 17) (Int32.toNatClampNeg x1)) (dc_wi m (x0 + 18) (Int32.toNatClampNeg (((16 : Int32) * x1) + x2)) (-4 : Int32)))).1 x0 32) + (1 : Int32))) (x0 + 18) (Int32.toNatClampNeg (((16 : Int32) * x1) + x2)) q1) lv1 (hv.1 _ rfl) (hv.2.1 _ rfl) (hv.2.2.1 _ rfl))
          · refine dw_g rfl ?_
            refine dg_s (pc' := 120) [.ref x0] rfl (fun _ => rfl) rfl ?_
            refine dg_s (pc' := 122) [.int (-6 : Int32), .ref x0] rfl (fun _ => rfl) rfl ?_
            refine dg_m (pc' := 125) (dc_wi (dc_wi m (x0 + 18) (Int32.toNatClampNeg (((16 : Int32) * x1) + x2)) (-4 : Int32)) x0 33 (-6 : Int32)) [] rfl (fun _ => rfl) rfl ?_
            refine dg_s (pc' := 126) [.ref x0] rfl (fun _ => rfl) rfl ?_
            refine dg_s (pc' := 129) [.int ((dc_wi (dc_wi m (x0 + 18) (Int32.toNatClampNeg (((16 : Int32) * x1) + x2)) (-4 : Int32)) x0 33 (-6 : Int32)).1 x0 33)] rfl (fun _ => rfl) rfl ?_
            exact dw_r (some (.inl (some (.int ((dc_wi (dc_wi m (x0 + 18) (Int32.toNatClampNeg (((16 : Int32) * x1) + x2)) (-4 : Int32)) x0 33 (-6 : Int32)).1 x0 33)), (dc_wi (dc_wi m (x0 + 18) (Int32.toNatClampNeg (((16 : Int32) * x1) + x2)) (-4 : Int32)) x0 33 (-6 : Int32))))) rfl (fun _ => rfl) (kR _ _)
        · refine dw_g rfl ?_
          refine dg_s (pc' := 82) [.ref x0] rfl (fun _ => rfl) rfl ?_
          refine dg_s (pc' := 84) [.int (-2 : Int32), .ref x0] rfl (fun _ => rfl) rfl ?_
          refine dg_m (pc' := 87) (dc_wi (dc_wi m (x0 + 18) (Int32.toNatClampNeg (((16 : Int32) * x1) + x2)) (-4 : Int32)) x0 33 (-2 : Int32)) [] rfl (fun _ => rfl) rfl ?_
          refine dg_s (pc' := 88) [.ref x0] rfl (fun _ => rfl) rfl ?_
          refine dg_s (pc' := 91) [.int ((dc_wi (dc_wi m (x0 + 18) (Int32.toNatClampNeg (((16 : Int32) * x1) + x2)) (-4 : Int32)) x0 33 (-2 : Int32)).1 x0 33)] rfl (fun _ => rfl) rfl ?_
          exact dw_r (some (.inl (some (.int ((dc_wi (dc_wi m (x0 + 18) (Int32.toNatClampNeg (((16 : Int32) * x1) + x2)) (-4 : Int32)) x0 33 (-2 : Int32)).1 x0 33)), (dc_wi (dc_wi m (x0 + 18) (Int32.toNatClampNeg (((16 : Int32) * x1) + x2)) (-4 : Int32)) x0 33 (-2 : Int32))))) rfl (fun _ => rfl) (kR _ _)
noncomputable def d_X10_layStates_l22b (x0 : Nat) (x1 : Int32) (m : dc_M) : Option ((Int32 × dc_M) ⊕ (Int32 × dc_M)) :=
  (if (Int32.toInt (m.1 x0 32)) ≤ (Int32.toInt x1) then some (Sum.inr (((m.1 x0 33), m))) else (d_X10_layStates_l32 x0 x1 (0 : Int32) m))
noncomputable def d_X10_layStates_l22s (x0 : Nat) : (Int32 × dc_M) → Option ((Int32 × dc_M) ⊕ (Int32 × dc_M)) := fun s => d_X10_layStates_l22b x0 s.1 s.2
noncomputable def d_X10_layStates_l22 (x0 : Nat) (x1 : Int32) (m : dc_M) : Option (Int32 × dc_M) := dc_lp (d_X10_layStates_l22s x0) (x1, m)
set_option maxHeartbeats 8000000 in
theorem k_X10_layStates_l22 {u : Nat} {Φ : (Option (Int32 × dc_M)) → Option Value → dc_M → Prop} (x0 : Nat) (kR : ∀ (v : Int32) (m : dc_M), Φ (some ((v, m))) (some (.int v)) m) : ∀ (N : Nat), ∀ (x1 : Int32) (m : dc_M) (lv : ab_L), ab_lk lv 0 = some (.ref x0) → ab_lk lv 1 = some (.int x1) → dc_pv u N ab_M_X10_layStates 22 lv [] m (Φ (d_X10_layStates_l22 x0 x1 m)) := by
  intro N
  induction N with
  | zero => intros; exact dc_pv_zero
  | succ N ih =>
    intro x1 m lv f0 f1
    refine dc_ok (C := C_X10_layStates) (S := S_X10_layStates) CO_X10_layStates 400 22 [(0, .ref x0), (1, .int x1)] lv [] m (dc_sub_cons f0 (dc_sub_cons f1 (dc_sub_nil))) ?_
    unfold d_X10_layStates_l22
    rw [dc_lp_eq]
    show (fun t x => dc_lf u N ab_M_X10_layStates (Φ (Option.bind t (dc_bk (d_X10_layStates_l22s x0)))) x) (d_X10_layStates_l22b x0 x1 m) _
    dsimp only
    unfold d_X10_layStates_l22b
    refine dg_s (pc' := 23) [.int x1] rfl (fun _ => rfl) rfl ?_
    refine dg_s (pc' := 24) [.ref x0, .int x1] rfl (fun _ => rfl) rfl ?_
    refine dg_s (pc' := 27) [.int (m.1 x0 32), .int x1] rfl (fun _ => rfl) rfl ?_
    refine dw_if (fun t => Φ (Option.bind t (dc_bk (d_X10_layStates_l22s x0)))) ((Int32.toInt (m.1 x0 32)) ≤ (Int32.toInt x1)) [] 182 30 rfl (fun _ => rfl) (fun c0 => ?_) (fun c0 => ?_)
    · refine dw_g rfl ?_
      refine dg_s (pc' := 183) [.ref x0] rfl (fun _ => rfl) rfl ?_
      refine dg_s (pc' := 186) [.int (m.1 x0 33)] rfl (fun _ => rfl) rfl ?_
      exact dw_r (some (.inl (some (.int (m.1 x0 33)), m))) rfl (fun _ => rfl) (kR _ _)
    · refine dw_g rfl ?_
      refine dg_s (pc' := 31) [.int (0 : Int32)] rfl (fun _ => rfl) rfl ?_
      refine dw_L (pc' := 32) [(2, .int (0 : Int32)), (0, .ref x0), (1, .int x1)] [] rfl (fun _ => rfl) ?_
      exact dw_j rfl (fun lv1 hv => k_X10_layStates_l32 (Φ := (fun t => Φ (Option.bind t (dc_bk (d_X10_layStates_l22s x0))))) x0 x1 (fun _a _b => kR _a _b) N ih (0 : Int32) m lv1 (hv.1 _ rfl) (hv.2.1 _ rfl) (hv.2.2.1 _ rfl))
noncomputable def d_X10_layStates (x0 : Nat) (m : dc_M) : Option (Int32 × dc_M) :=
  (d_X10_layStates_l22 x0 (0 : Int32) (dc_wi (dc_wi (dc_wi m (x0 + 17) (Int32.toNatClampNeg (0 : Int32)) (m.1 x0 11)) x0 32 (1 : Int32)) x0 33 (1 : Int32)))
set_option maxHeartbeats 8000000 in
theorem k_X10_layStates {u : Nat} {N : Nat} {Φ : (Option (Int32 × dc_M)) → Option Value → dc_M → Prop} (x0 : Nat) (m : dc_M) (kR : ∀ (v : Int32) (m : dc_M), Φ (some ((v, m))) (some (.int v)) m)  {lv : ab_L} (f0 : ab_lk lv 0 = some (.ref x0)) : dc_pv u N ab_M_X10_layStates 0 lv [] m (Φ (d_X10_layStates x0 m)) := by
  refine dc_pv.mono (dc_ok (C := C_X10_layStates) (S := S_X10_layStates) CO_X10_layStates 400 0 [(0, .ref x0)] lv [] m (dc_sub_cons f0 (dc_sub_nil)) ?_) (Nat.le_succ N)
  unfold d_X10_layStates
  refine dg_s (pc' := 1) [.ref x0] rfl (fun _ => rfl) rfl ?_
  refine dg_s (pc' := 4) [.ref (x0 + 17)] rfl (fun _ => rfl) rfl ?_
  refine dg_s (pc' := 5) [.int (0 : Int32), .ref (x0 + 17)] rfl (fun _ => rfl) rfl ?_
  refine dg_s (pc' := 6) [.ref x0, .int (0 : Int32), .ref (x0 + 17)] rfl (fun _ => rfl) rfl ?_
  refine dg_s (pc' := 9) [.int (m.1 x0 11), .int (0 : Int32), .ref (x0 + 17)] rfl (fun _ => rfl) rfl ?_
  refine dg_m (pc' := 10) (dc_wi m (x0 + 17) (Int32.toNatClampNeg (0 : Int32)) (m.1 x0 11)) [] rfl (fun _ => rfl) rfl ?_
  refine dg_s (pc' := 11) [.ref x0] rfl (fun _ => rfl) rfl ?_
  refine dg_s (pc' := 12) [.int (1 : Int32), .ref x0] rfl (fun _ => rfl) rfl ?_
  refine dg_m (pc' := 15) (dc_wi (dc_wi m (x0 + 17) (Int32.toNatClampNeg (0 : Int32)) (m.1 x0 11)) x0 32 (1 : Int32)) [] rfl (fun _ => rfl) rfl ?_
  refine dg_s (pc' := 16) [.ref x0] rfl (fun _ => rfl) rfl ?_
  refine dg_s (pc' := 17) [.int (1 : Int32), .ref x0] rfl (fun _ => rfl) rfl ?_
  refine dg_m (pc' := 20) (dc_wi (dc_wi (dc_wi m (x0 + 17) (Int32.toNatClampNeg (0 : Int32)) (m.1 x0 11)) x0 32 (1 : Int32)) x0 33 (1 : Int32)) [] rfl (fun _ => rfl) rfl ?_
  refine dg_s (pc' := 21) [.int (0 : Int32)] rfl (fun _ => rfl) rfl ?_
  refine dw_L (pc' := 22) [(1, .int (0 : Int32)), (0, .ref x0)] [] rfl (fun _ => rfl) ?_
  exact dw_j rfl (fun lv1 hv => k_X10_layStates_l22 (Φ := (fun t => Φ t)) x0 (fun _a _b => kR _a _b) N  (0 : Int32) (dc_wi (dc_wi (dc_wi m (x0 + 17) (Int32.toNatClampNeg (0 : Int32)) (m.1 x0 11)) x0 32 (1 : Int32)) x0 33 (1 : Int32)) lv1 (hv.1 _ rfl) (hv.2.1 _ rfl))
noncomputable def H_X10_layStates : dc_H := fun As m k => match As with
  | [.ref x0] => (d_X10_layStates x0 m).bind (fun q => k (some (.int q.1)) q.2)
  | _ => dc_kz
theorem H_X10_layStates_ok {u : Nat} : dc_cok u 173 H_X10_layStates := fun M' hG N As m k P hz hP => by
  obtain rfl : ab_M_X10_layStates = M' := Option.some.inj hG
  unfold H_X10_layStates at hP
  split at hP
  · rename_i x0
    exact dc_pv.imp (k_X10_layStates (Φ := fun (t : Option (Int32 × dc_M)) r m' => P (t.bind (fun q => k (some (.int q.1)) q.2)) → P (k r m')) x0 m (fun _ _ h => h) rfl) (fun r m' h => h hP)
  · exact absurd hP hz
noncomputable def C_X10_states : List (Nat × dc_H) := [(173, H_X10_layStates)]
theorem CO_X10_states {u : Nat} : dc_CO u C_X10_states := dc_CO_cons H_X10_layStates_ok (dc_CO_nil)
def S_X10_states : List (Nat × List Nat) := []
noncomputable def d_X10_states (x0 : Nat) (m : dc_M) : Option (Int32 × dc_M) :=
  ((d_X10_layStates x0 m).bind (fun q1 => (if ¬ (Int32.toInt q1.1) = 1 then some (((q1.2.1 x0 33), q1.2)) else some (((q1.2.1 x0 32), q1.2)))))
set_option maxHeartbeats 8000000 in
theorem k_X10_states {u : Nat} {N : Nat} {Φ : (Option (Int32 × dc_M)) → Option Value → dc_M → Prop} (x0 : Nat) (m : dc_M) (kR : ∀ (v : Int32) (m : dc_M), Φ (some ((v, m))) (some (.int v)) m)  {lv : ab_L} (f0 : ab_lk lv 0 = some (.ref x0)) : dc_pv u N ab_M_X10_states 0 lv [] m (Φ (d_X10_states x0 m)) := by
  refine dc_pv.mono (dc_ok (C := C_X10_states) (S := S_X10_states) CO_X10_states 400 0 [(0, .ref x0)] lv [] m (dc_sub_cons f0 (dc_sub_nil)) ?_) (Nat.le_succ N)
  unfold d_X10_states
  refine dg_s (pc' := 1) [.ref x0] rfl (fun _ => rfl) rfl ?_
  refine dw_b (fun t => Φ t) (pc' := 4) (fun q1 => [.int q1.1]) (fun q1 => q1.2) rfl (fun _ => rfl) (fun q1 => ?_)
  refine dw_g rfl ?_
  refine dg_s (pc' := 5) [.int (1 : Int32), .int q1.1] rfl (fun _ => rfl) rfl ?_
  refine dw_if (fun t => Φ t) (¬ (Int32.toInt q1.1) = 1) [] 15 8 rfl (fun _ => rfl) (fun c0 => ?_) (fun c0 => ?_)
  · refine dw_g rfl ?_
    refine dg_s (pc' := 16) [.ref x0] rfl (fun _ => rfl) rfl ?_
    refine dg_s (pc' := 19) [.int (q1.2.1 x0 33)] rfl (fun _ => rfl) rfl ?_
    exact dw_r (some (.inl (some (.int (q1.2.1 x0 33)), q1.2))) rfl (fun _ => rfl) (kR _ _)
  · refine dw_g rfl ?_
    refine dg_s (pc' := 9) [.ref x0] rfl (fun _ => rfl) rfl ?_
    refine dg_s (pc' := 12) [.int (q1.2.1 x0 32)] rfl (fun _ => rfl) rfl ?_
    refine dg_s (pc' := 19) [.int (q1.2.1 x0 32)] rfl (fun _ => rfl) rfl ?_
    exact dw_r (some (.inl (some (.int (q1.2.1 x0 32)), q1.2))) rfl (fun _ => rfl) (kR _ _)
noncomputable def H_X10_states : dc_H := fun As m k => match As with
  | [.ref x0] => (d_X10_states x0 m).bind (fun q => k (some (.int q.1)) q.2)
  | _ => dc_kz
theorem H_X10_states_ok {u : Nat} : dc_cok u 176 H_X10_states := fun M' hG N As m k P hz hP => by
  obtain rfl : ab_M_X10_states = M' := Option.some.inj hG
  unfold H_X10_states at hP
  split at hP
  · rename_i x0
    exact dc_pv.imp (k_X10_states (Φ := fun (t : Option (Int32 × dc_M)) r m' => P (t.bind (fun q => k (some (.int q.1)) q.2)) → P (k r m')) x0 m (fun _ _ h => h) rfl) (fun r m' h => h hP)
  · exact absurd hP hz
def C_X10_layLevels : List (Nat × dc_H) := []
theorem CO_X10_layLevels {u : Nat} : dc_CO u C_X10_layLevels := dc_CO_nil
def S_X10_layLevels : List (Nat × List Nat) := [(2, [0, 1, 2, 3]), (23, [0, 1, 2]), (57, [0, 1, 3, 4]), (68, [0, 1, 3, 4, 5]), (80, [0, 1, 3, 4, 5, 6]), (157, [0, 1, 3, 4, 5, 6, 7, 8]), (191, [0, 1, 4, 5, 6, 7, 9])]
noncomputable def d_X10_layLevels_b191 (x0 : Nat) (x1 : Int32) (x4 : Int32) (x5 : Int32) (x6 : Int32) (x7 : Int32) (x9 : Int32) (s0 : Int32) (m : dc_M) : Option ((Int32 × Int32 × Int32 × dc_M) ⊕ ((Int32 × Int32 × Int32 × dc_M) ⊕ ((Int32 × Int32 × dc_M) ⊕ (Int32 × dc_M)))) :=
  (if (Int32.toInt (m.1 (x0 + 20) (Int32.toNatClampNeg x7))) = 0 then some (Sum.inl (s0, (1 : Int32), (x6 + (1 : Int32)), (dc_wi (dc_wi m (x0 + 19) (Int32.toNatClampNeg x7) (((m.1 (x0 + 19) (Int32.toNatClampNeg x7)) &&& (((1 : Int32) <<< (x1 &&& 31)) ^^^ (-1 : Int32))) ||| (x9 <<< (x1 &&& 31)))) (x0 + 20) (Int32.toNatClampNeg x7) (dc_nar ((dc_wi m (x0 + 19) (Int32.toNatClampNeg x7) (((m.1 (x0 + 19) (Int32.toNatClampNeg x7)) &&& (((1 : Int32) <<< (x1 &&& 31)) ^^^ (-1 : Int32))) ||| (x9 <<< (x1 &&& 31)))).2.2.2 (x0 + 20)).1 (1 : Int32))))) else (if (Int32.toInt s0) = 0 then some (Sum.inl ((0 : Int32), x4, (x6 + (1 : Int32)), m)) else (if ¬ (Int32.toInt (((m.1 (x0 + 19) (Int32.toNatClampNeg x7)) >>> (x1 &&& 31)) &&& (1 : Int32))) = (Int32.toInt x9) then some (Sum.inl ((0 : Int32), x4, (x6 + (1 : Int32)), m)) else some (Sum.inl ((1 : Int32), x4, (x6 + (1 : Int32)), m)))))
set_option maxHeartbeats 8000000 in
theorem k_X10_layLevels_b191 {u : Nat} {N : Nat} {Φ : (Option ((Int32 × Int32 × Int32 × dc_M) ⊕ ((Int32 × Int32 × Int32 × dc_M) ⊕ ((Int32 × Int32 × dc_M) ⊕ (Int32 × dc_M))))) → Option Value → dc_M → Prop} (x0 : Nat) (x1 : Int32) (x4 : Int32) (x5 : Int32) (x6 : Int32) (x7 : Int32) (x9 : Int32) (s0 : Int32) (m : dc_M) (kR : ∀ (v : Int32) (m : dc_M), Φ (some (Sum.inr (Sum.inr (Sum.inr ((v, m)))))) (some (.int v)) m) (k80 : ∀ (x3 : Int32) (x4 : Int32) (x6 : Int32) (m : dc_M) (lv : ab_L), ab_lk lv 0 = some (.ref x0) → ab_lk lv 1 = some (.int x1) → ab_lk lv 3 = some (.int x3) → ab_lk lv 4 = some (.int x4) → ab_lk lv 5 = some (.int x5) → ab_lk lv 6 = some (.int x6) →  dc_pv u N ab_M_X10_layLevels 80 lv [] m (Φ (some (Sum.inl (x3, x4, x6, m))))) (k68 : ∀ (x3 : Int32) (x4 : Int32) (x5 : Int32) (m : dc_M) (lv : ab_L), ab_lk lv 0 = some (.ref x0) → ab_lk lv 1 = some (.int x1) → ab_lk lv 3 = some (.int x3) → ab_lk lv 4 = some (.int x4) → ab_lk lv 5 = some (.int x5) →  dc_pv u N ab_M_X10_layLevels 68 lv [] m (Φ (some (Sum.inr (Sum.inl (x3, x4, x5, m)))))) (k57 : ∀ (x3 : Int32) (x4 : Int32) (m : dc_M) (lv : ab_L), ab_lk lv 0 = some (.ref x0) → ab_lk lv 1 = some (.int x1) → ab_lk lv 3 = some (.int x3) → ab_lk lv 4 = some (.int x4) →  dc_pv u N ab_M_X10_layLevels 57 lv [] m (Φ (some (Sum.inr (Sum.inr (Sum.inl (x3, x4, m))))))) {lv : ab_L} (f0 : ab_lk lv 0 = some (.ref x0)) (f1 : ab_lk lv 1 = some (.int x1)) (f4 : ab_lk lv 4 = some (.int x4)) (f5 : ab_lk lv 5 = some (.int x5)) (f6 : ab_lk lv 6 = some (.int x6)) (f7 : ab_lk lv 7 = some (.int x7)) (f9 : ab_lk lv 9 = some (.int x9)) : dc_pv u N ab_M_X10_layLevels 191 lv [.int s0] m (Φ (d_X10_layLevels_b191 x0 x1 x4 x5 x6 x7 x9 s0 m)) := by
  refine dc_pv.mono (dc_ok (C := C_X10_layLevels) (S := S_X10_layLevels) CO_X10_layLevels 400 191 [(0, .ref x0), (1, .int x1), (4, .int x4), (5, .int x5), (6, .int x6), (7, .int x7), (9, .int x9)] lv [.int s0] m (dc_sub_cons f0 (dc_sub_cons f1 (dc_sub_cons f4 (dc_sub_cons f5 (dc_sub_cons f6 (dc_sub_cons f7 (dc_sub_cons f9 (dc_sub_nil)))))))) ?_) (Nat.le_succ N)
  unfold d_X10_layLevels_b191
  refine dg_L (pc' := 192) [(3, .int s0), (0, .ref x0), (1, .int x1), (4, .int x4), (5, .int x5), (6, .int x6), (7, .int x7), (9, .int x9)] [] rfl (fun _ => rfl) rfl ?_
  refine dg_s (pc' := 193) [.ref x0] rfl (fun _ => rfl) rfl ?_
  refine dg_s (pc' := 196) [.ref (x0 + 20)] rfl (fun _ => rfl) rfl ?_
  refine dg_s (pc' := 198) [.int x7, .ref (x0 + 20)] rfl (fun _ => rfl) rfl ?_
  refine dg_s (pc' := 199) [.int (m.1 (x0 + 20) (Int32.toNatClampNeg x7))] rfl (fun _ => rfl) rfl ?_
  refine dw_if (fun t => Φ t) ((Int32.toInt (m.1 (x0 + 20) (Int32.toNatClampNeg x7))) = 0) [] 231 202 rfl (fun _ => rfl) (fun c0 => ?_) (fun c0 => ?_)
  · refine dw_g rfl ?_
    refine dg_s (pc' := 232) [.ref x0] rfl (fun _ => rfl) rfl ?_
    refine dg_s (pc' := 235) [.ref (x0 + 19)] rfl (fun _ => rfl) rfl ?_
    refine dg_s (pc' := 237) [.int x7, .ref (x0 + 19)] rfl (fun _ => rfl) rfl ?_
    refine dg_s (pc' := 238) [.ref x0, .int x7, .ref (x0 + 19)] rfl (fun _ => rfl) rfl ?_
    refine dg_s (pc' := 241) [.ref (x0 + 19), .int x7, .ref (x0 + 19)] rfl (fun _ => rfl) rfl ?_
    refine dg_s (pc' := 243) [.int x7, .ref (x0 + 19), .int x7, .ref (x0 + 19)] rfl (fun _ => rfl) rfl ?_
    refine dg_s (pc' := 244) [.int (m.1 (x0 + 19) (Int32.toNatClampNeg x7)), .int x7, .ref (x0 + 19)] rfl (fun _ => rfl) rfl ?_
    refine dg_s (pc' := 245) [.int (1 : Int32), .int (m.1 (x0 + 19) (Int32.toNatClampNeg x7)), .int x7, .ref (x0 + 19)] rfl (fun _ => rfl) rfl ?_
    refine dg_s (pc' := 246) [.int x1, .int (1 : Int32), .int (m.1 (x0 + 19) (Int32.toNatClampNeg x7)), .int x7, .ref (x0 + 19)] rfl (fun _ => rfl) rfl ?_
    refine dg_s (pc' := 247) [.int ((1 : Int32) <<< (x1 &&& 31)), .int (m.1 (x0 + 19) (Int32.toNatClampNeg x7)), .int x7, .ref (x0 + 19)] rfl (fun _ => rfl) rfl ?_
    refine dg_s (pc' := 248) [.int (-1 : Int32), .int ((1 : Int32) <<< (x1 &&& 31)), .int (m.1 (x0 + 19) (Int32.toNatClampNeg x7)), .int x7, .ref (x0 + 19)] rfl (fun _ => rfl) rfl ?_
    refine dg_s (pc' := 249) [.int (((1 : Int32) <<< (x1 &&& 31)) ^^^ (-1 : Int32)), .int (m.1 (x0 + 19) (Int32.toNatClampNeg x7)), .int x7, .ref (x0 + 19)] rfl (fun _ => rfl) rfl ?_
    refine dg_s (pc' := 250) [.int ((m.1 (x0 + 19) (Int32.toNatClampNeg x7)) &&& (((1 : Int32) <<< (x1 &&& 31)) ^^^ (-1 : Int32))), .int x7, .ref (x0 + 19)] rfl (fun _ => rfl) rfl ?_
    refine dg_s (pc' := 252) [.int x9, .int ((m.1 (x0 + 19) (Int32.toNatClampNeg x7)) &&& (((1 : Int32) <<< (x1 &&& 31)) ^^^ (-1 : Int32))), .int x7, .ref (x0 + 19)] rfl (fun _ => rfl) rfl ?_
    refine dg_s (pc' := 253) [.int x1, .int x9, .int ((m.1 (x0 + 19) (Int32.toNatClampNeg x7)) &&& (((1 : Int32) <<< (x1 &&& 31)) ^^^ (-1 : Int32))), .int x7, .ref (x0 + 19)] rfl (fun _ => rfl) rfl ?_
    refine dg_s (pc' := 254) [.int (x9 <<< (x1 &&& 31)), .int ((m.1 (x0 + 19) (Int32.toNatClampNeg x7)) &&& (((1 : Int32) <<< (x1 &&& 31)) ^^^ (-1 : Int32))), .int x7, .ref (x0 + 19)] rfl (fun _ => rfl) rfl ?_
    refine dg_s (pc' := 255) [.int (((m.1 (x0 + 19) (Int32.toNatClampNeg x7)) &&& (((1 : Int32) <<< (x1 &&& 31)) ^^^ (-1 : Int32))) ||| (x9 <<< (x1 &&& 31))), .int x7, .ref (x0 + 19)] rfl (fun _ => rfl) rfl ?_
    refine dg_m (pc' := 256) (dc_wi m (x0 + 19) (Int32.toNatClampNeg x7) (((m.1 (x0 + 19) (Int32.toNatClampNeg x7)) &&& (((1 : Int32) <<< (x1 &&& 31)) ^^^ (-1 : Int32))) ||| (x9 <<< (x1 &&& 31)))) [] rfl (fun _ => rfl) rfl ?_
    refine dg_s (pc' := 257) [.ref x0] rfl (fun _ => rfl) rfl ?_
    refine dg_s (pc' := 260) [.ref (x0 + 20)] rfl (fun _ => rfl) rfl ?_
    refine dg_s (pc' := 262) [.int x7, .ref (x0 + 20)] rfl (fun _ => rfl) rfl ?_
    refine dg_s (pc' := 263) [.int (1 : Int32), .int x7, .ref (x0 + 20)] rfl (fun _ => rfl) rfl ?_
    refine dg_m (pc' := 264) (dc_wi (dc_wi m (x0 + 19) (Int32.toNatClampNeg x7) (((m.1 (x0 + 19) (Int32.toNatClampNeg x7)) &&& (((1 : Int32) <<< (x1 &&& 31)) ^^^ (-1 : Int32))) ||| (x9 <<< (x1 &&& 31)))) (x0 + 20) (Int32.toNatClampNeg x7) (dc_nar ((dc_wi m (x0 + 19) (Int32.toNatClampNeg x7) (((m.1 (x0 + 19) (Int32.toNatClampNeg x7)) &&& (((1 : Int32) <<< (x1 &&& 31)) ^^^ (-1 : Int32))) ||| (x9 <<< (x1 &&& 31)))).2.2.2 (x0 + 20)).1 (1 : Int32))) [] rfl (fun _ => rfl) rfl ?_
    refine dg_s (pc' := 265) [.int (1 : Int32)] rfl (fun _ => rfl) rfl ?_
    refine dg_L (pc' := 267) [(4, .int (1 : Int32)), (3, .int s0), (0, .ref x0), (1, .int x1), (5, .int x5), (6, .int x6), (7, .int x7), (9, .int x9)] [] rfl (fun _ => rfl) rfl ?_
    refine dg_L (pc' := 270) [(6, .int (x6 + (1 : Int32))), (4, .int (1 : Int32)), (3, .int s0), (0, .ref x0), (1, .int x1), (5, .int x5), (7, .int x7), (9, .int x9)] [] rfl (fun _ => rfl) rfl ?_
    refine dw_s (pc' := 80) [] rfl (fun _ => rfl) ?_
    exact dw_j rfl (fun lv1 hv => k80 s0 (1 : Int32) (x6 + (1 : Int32)) (dc_wi (dc_wi m (x0 + 19) (Int32.toNatClampNeg x7) (((m.1 (x0 + 19) (Int32.toNatClampNeg x7)) &&& (((1 : Int32) <<< (x1 &&& 31)) ^^^ (-1 : Int32))) ||| (x9 <<< (x1 &&& 31)))) (x0 + 20) (Int32.toNatClampNeg x7) (dc_nar ((dc_wi m (x0 + 19) (Int32.toNatClampNeg x7) (((m.1 (x0 + 19) (Int32.toNatClampNeg x7)) &&& (((1 : Int32) <<< (x1 &&& 31)) ^^^ (-1 : Int32))) ||| (x9 <<< (x1 &&& 31)))).2.2.2 (x0 + 20)).1 (1 : Int32))) lv1 (hv.1 _ rfl) (hv.2.1 _ rfl) (hv.2.2.1 _ rfl) (hv.2.2.2.1 _ rfl) (hv.2.2.2.2.1 _ rfl) (hv.2.2.2.2.2.1 _ rfl))
  · refine dw_g rfl ?_
    refine dg_s (pc' := 203) [.int s0] rfl (fun _ => rfl) rfl ?_
    refine dw_if (fun t => Φ t) ((Int32.toInt s0) = 0) [] 226 206 rfl (fun _ => rfl) (fun c1 => ?_) (fun c1 => ?_)
    · refine dw_g rfl ?_
      refine dg_s (pc' := 227) [.int (0 : Int32)] rfl (fun _ => rfl) rfl ?_
      refine dg_L (pc' := 228) [(3, .int (0 : Int32)), (0, .ref x0), (1, .int x1), (4, .int x4), (5, .int x5), (6, .int x6), (7, .int x7), (9, .int x9)] [] rfl (fun _ => rfl) rfl ?_
      refine dg_s (pc' := 267) [] rfl (fun _ => rfl) rfl ?_
      refine dg_L (pc' := 270) [(6, .int (x6 + (1 : Int32))), (3, .int (0 : Int32)), (0, .ref x0), (1, .int x1), (4, .int x4), (5, .int x5), (7, .int x7), (9, .int x9)] [] rfl (fun _ => rfl) rfl ?_
      refine dw_s (pc' := 80) [] rfl (fun _ => rfl) ?_
      exact dw_j rfl (fun lv1 hv => k80 (0 : Int32) x4 (x6 + (1 : Int32)) m lv1 (hv.1 _ rfl) (hv.2.1 _ rfl) (hv.2.2.1 _ rfl) (hv.2.2.2.1 _ rfl) (hv.2.2.2.2.1 _ rfl) (hv.2.2.2.2.2.1 _ rfl))
    · refine dw_g rfl ?_
      refine dg_s (pc' := 207) [.ref x0] rfl (fun _ => rfl) rfl ?_
      refine dg_s (pc' := 210) [.ref (x0 + 19)] rfl (fun _ => rfl) rfl ?_
      refine dg_s (pc' := 212) [.int x7, .ref (x0 + 19)] rfl (fun _ => rfl) rfl ?_
      refine dg_s (pc' := 213) [.int (m.1 (x0 + 19) (Int32.toNatClampNeg x7))] rfl (fun _ => rfl) rfl ?_
      refine dg_s (pc' := 214) [.int x1, .int (m.1 (x0 + 19) (Int32.toNatClampNeg x7))] rfl (fun _ => rfl) rfl ?_
      refine dg_s (pc' := 215) [.int ((m.1 (x0 + 19) (Int32.toNatClampNeg x7)) >>> (x1 &&& 31))] rfl (fun _ => rfl) rfl ?_
      refine dg_s (pc' := 216) [.int (1 : Int32), .int ((m.1 (x0 + 19) (Int32.toNatClampNeg x7)) >>> (x1 &&& 31))] rfl (fun _ => rfl) rfl ?_
      refine dg_s (pc' := 217) [.int (((m.1 (x0 + 19) (Int32.toNatClampNeg x7)) >>> (x1 &&& 31)) &&& (1 : Int32))] rfl (fun _ => rfl) rfl ?_
      refine dg_s (pc' := 219) [.int x9, .int (((m.1 (x0 + 19) (Int32.toNatClampNeg x7)) >>> (x1 &&& 31)) &&& (1 : Int32))] rfl (fun _ => rfl) rfl ?_
      refine dw_if (fun t => Φ t) (¬ (Int32.toInt (((m.1 (x0 + 19) (Int32.toNatClampNeg x7)) >>> (x1 &&& 31)) &&& (1 : Int32))) = (Int32.toInt x9)) [] 226 222 rfl (fun _ => rfl) (fun c2 => ?_) (fun c2 => ?_)
      · refine dw_g rfl ?_
        refine dg_s (pc' := 227) [.int (0 : Int32)] rfl (fun _ => rfl) rfl ?_
        refine dg_L (pc' := 228) [(3, .int (0 : Int32)), (0, .ref x0), (1, .int x1), (4, .int x4), (5, .int x5), (6, .int x6), (7, .int x7), (9, .int x9)] [] rfl (fun _ => rfl) rfl ?_
        refine dg_s (pc' := 267) [] rfl (fun _ => rfl) rfl ?_
        refine dg_L (pc' := 270) [(6, .int (x6 + (1 : Int32))), (3, .int (0 : Int32)), (0, .ref x0), (1, .int x1), (4, .int x4), (5, .int x5), (7, .int x7), (9, .int x9)] [] rfl (fun _ => rfl) rfl ?_
        refine dw_s (pc' := 80) [] rfl (fun _ => rfl) ?_
        exact dw_j rfl (fun lv1 hv => k80 (0 : Int32) x4 (x6 + (1 : Int32)) m lv1 (hv.1 _ rfl) (hv.2.1 _ rfl) (hv.2.2.1 _ rfl) (hv.2.2.2.1 _ rfl) (hv.2.2.2.2.1 _ rfl) (hv.2.2.2.2.2.1 _ rfl))
      · refine dw_g rfl ?_
        refine dg_s (pc' := 223) [.int (1 : Int32)] rfl (fun _ => rfl) rfl ?_
        refine dg_s (pc' := 227) [.int (1 : Int32)] rfl (fun _ => rfl) rfl ?_
        refine dg_L (pc' := 228) [(3, .int (1 : Int32)), (0, .ref x0), (1, .int x1), (4, .int x4), (5, .int x5), (6, .int x6), (7, .int x7), (9, .int x9)] [] rfl (fun _ => rfl) rfl ?_
        refine dg_s (pc' := 267) [] rfl (fun _ => rfl) rfl ?_
        refine dg_L (pc' := 270) [(6, .int (x6 + (1 : Int32))), (3, .int (1 : Int32)), (0, .ref x0), (1, .int x1), (4, .int x4), (5, .int x5), (7, .int x7), (9, .int x9)] [] rfl (fun _ => rfl) rfl ?_
        refine dw_s (pc' := 80) [] rfl (fun _ => rfl) ?_
        exact dw_j rfl (fun lv1 hv => k80 (1 : Int32) x4 (x6 + (1 : Int32)) m lv1 (hv.1 _ rfl) (hv.2.1 _ rfl) (hv.2.2.1 _ rfl) (hv.2.2.2.1 _ rfl) (hv.2.2.2.2.1 _ rfl) (hv.2.2.2.2.2.1 _ rfl))
noncomputable def d_X10_layLevels_b157 (x0 : Nat) (x1 : Int32) (x3 : Int32) (x4 : Int32) (x5 : Int32) (x6 : Int32) (x7 : Int32) (x8 : Int32) (s0 : Int32) (m : dc_M) : Option ((Int32 × Int32 × Int32 × dc_M) ⊕ ((Int32 × Int32 × Int32 × dc_M) ⊕ ((Int32 × Int32 × dc_M) ⊕ (Int32 × dc_M)))) :=
  (if (Int32.toInt x3) = 0 then (d_X10_layLevels_b191 x0 x1 x4 x5 x6 x7 s0 (0 : Int32) m) else (if ¬ (Int32.toInt (m.1 (x0 + 3) (Int32.toNatClampNeg x6))) = (Int32.toInt x1) then (d_X10_layLevels_b191 x0 x1 x4 x5 x6 x7 s0 (1 : Int32) m) else (if (Int32.toInt x8) = (Int32.toInt (m.1 (x0 + 4) (Int32.toNatClampNeg x6))) then (d_X10_layLevels_b191 x0 x1 x4 x5 x6 x7 s0 (0 : Int32) m) else (d_X10_layLevels_b191 x0 x1 x4 x5 x6 x7 s0 (1 : Int32) m))))
set_option maxHeartbeats 8000000 in
theorem k_X10_layLevels_b157 {u : Nat} {N : Nat} {Φ : (Option ((Int32 × Int32 × Int32 × dc_M) ⊕ ((Int32 × Int32 × Int32 × dc_M) ⊕ ((Int32 × Int32 × dc_M) ⊕ (Int32 × dc_M))))) → Option Value → dc_M → Prop} (x0 : Nat) (x1 : Int32) (x3 : Int32) (x4 : Int32) (x5 : Int32) (x6 : Int32) (x7 : Int32) (x8 : Int32) (s0 : Int32) (m : dc_M) (kR : ∀ (v : Int32) (m : dc_M), Φ (some (Sum.inr (Sum.inr (Sum.inr ((v, m)))))) (some (.int v)) m) (k80 : ∀ (x3 : Int32) (x4 : Int32) (x6 : Int32) (m : dc_M) (lv : ab_L), ab_lk lv 0 = some (.ref x0) → ab_lk lv 1 = some (.int x1) → ab_lk lv 3 = some (.int x3) → ab_lk lv 4 = some (.int x4) → ab_lk lv 5 = some (.int x5) → ab_lk lv 6 = some (.int x6) →  dc_pv u N ab_M_X10_layLevels 80 lv [] m (Φ (some (Sum.inl (x3, x4, x6, m))))) (k68 : ∀ (x3 : Int32) (x4 : Int32) (x5 : Int32) (m : dc_M) (lv : ab_L), ab_lk lv 0 = some (.ref x0) → ab_lk lv 1 = some (.int x1) → ab_lk lv 3 = some (.int x3) → ab_lk lv 4 = some (.int x4) → ab_lk lv 5 = some (.int x5) →  dc_pv u N ab_M_X10_layLevels 68 lv [] m (Φ (some (Sum.inr (Sum.inl (x3, x4, x5, m)))))) (k57 : ∀ (x3 : Int32) (x4 : Int32) (m : dc_M) (lv : ab_L), ab_lk lv 0 = some (.ref x0) → ab_lk lv 1 = some (.int x1) → ab_lk lv 3 = some (.int x3) → ab_lk lv 4 = some (.int x4) →  dc_pv u N ab_M_X10_layLevels 57 lv [] m (Φ (some (Sum.inr (Sum.inr (Sum.inl (x3, x4, m))))))) {lv : ab_L} (f0 : ab_lk lv 0 = some (.ref x0)) (f1 : ab_lk lv 1 = some (.int x1)) (f3 : ab_lk lv 3 = some (.int x3)) (f4 : ab_lk lv 4 = some (.int x4)) (f5 : ab_lk lv 5 = some (.int x5)) (f6 : ab_lk lv 6 = some (.int x6)) (f7 : ab_lk lv 7 = some (.int x7)) (f8 : ab_lk lv 8 = some (.int x8)) : dc_pv u N ab_M_X10_layLevels 157 lv [.int s0] m (Φ (d_X10_layLevels_b157 x0 x1 x3 x4 x5 x6 x7 x8 s0 m)) := by
  refine dc_pv.mono (dc_ok (C := C_X10_layLevels) (S := S_X10_layLevels) CO_X10_layLevels 400 157 [(0, .ref x0), (1, .int x1), (3, .int x3), (4, .int x4), (5, .int x5), (6, .int x6), (7, .int x7), (8, .int x8)] lv [.int s0] m (dc_sub_cons f0 (dc_sub_cons f1 (dc_sub_cons f3 (dc_sub_cons f4 (dc_sub_cons f5 (dc_sub_cons f6 (dc_sub_cons f7 (dc_sub_cons f8 (dc_sub_nil))))))))) ?_) (Nat.le_succ N)
  unfold d_X10_layLevels_b157
  refine dg_L (pc' := 159) [(9, .int s0), (0, .ref x0), (1, .int x1), (3, .int x3), (4, .int x4), (5, .int x5), (6, .int x6), (7, .int x7), (8, .int x8)] [] rfl (fun _ => rfl) rfl ?_
  refine dg_s (pc' := 160) [.int x3] rfl (fun _ => rfl) rfl ?_
  refine dw_if (fun t => Φ t) ((Int32.toInt x3) = 0) [] 190 163 rfl (fun _ => rfl) (fun c0 => ?_) (fun c0 => ?_)
  · refine dw_g rfl ?_
    refine dw_s (pc' := 191) [.int (0 : Int32)] rfl (fun _ => rfl) ?_
    exact dw_j rfl (fun lv1 hv => k_X10_layLevels_b191 (Φ := (fun t => Φ t)) x0 x1 x4 x5 x6 x7 s0 (0 : Int32) m (fun _a _b => kR _a _b) k80 k68 k57 (hv.1 _ rfl) (hv.2.1 _ rfl) (hv.2.2.1 _ rfl) (hv.2.2.2.1 _ rfl) (hv.2.2.2.2.1 _ rfl) (hv.2.2.2.2.2.1 _ rfl) (hv.2.2.2.2.2.2.1 _ rfl))
  · refine dw_g rfl ?_
    refine dg_s (pc' := 164) [.ref x0] rfl (fun _ => rfl) rfl ?_
    refine dg_s (pc' := 167) [.ref (x0 + 3)] rfl (fun _ => rfl) rfl ?_
    refine dg_s (pc' := 169) [.int x6, .ref (x0 + 3)] rfl (fun _ => rfl) rfl ?_
    refine dg_s (pc' := 170) [.int (m.1 (x0 + 3) (Int32.toNatClampNeg x6))] rfl (fun _ => rfl) rfl ?_
    refine dg_s (pc' := 171) [.int x1, .int (m.1 (x0 + 3) (Int32.toNatClampNeg x6))] rfl (fun _ => rfl) rfl ?_
    refine dw_if (fun t => Φ t) (¬ (Int32.toInt (m.1 (x0 + 3) (Int32.toNatClampNeg x6))) = (Int32.toInt x1)) [] 186 174 rfl (fun _ => rfl) (fun c1 => ?_) (fun c1 => ?_)
    · refine dw_g rfl ?_
      refine dg_s (pc' := 187) [.int (1 : Int32)] rfl (fun _ => rfl) rfl ?_
      refine dw_s (pc' := 191) [.int (1 : Int32)] rfl (fun _ => rfl) ?_
      exact dw_j rfl (fun lv1 hv => k_X10_layLevels_b191 (Φ := (fun t => Φ t)) x0 x1 x4 x5 x6 x7 s0 (1 : Int32) m (fun _a _b => kR _a _b) k80 k68 k57 (hv.1 _ rfl) (hv.2.1 _ rfl) (hv.2.2.1 _ rfl) (hv.2.2.2.1 _ rfl) (hv.2.2.2.2.1 _ rfl) (hv.2.2.2.2.2.1 _ rfl) (hv.2.2.2.2.2.2.1 _ rfl))
    · refine dw_g rfl ?_
      refine dg_s (pc' := 176) [.int x8] rfl (fun _ => rfl) rfl ?_
      refine dg_s (pc' := 177) [.ref x0, .int x8] rfl (fun _ => rfl) rfl ?_
      refine dg_s (pc' := 180) [.ref (x0 + 4), .int x8] rfl (fun _ => rfl) rfl ?_
      refine dg_s (pc' := 182) [.int x6, .ref (x0 + 4), .int x8] rfl (fun _ => rfl) rfl ?_
      refine dg_s (pc' := 183) [.int (m.1 (x0 + 4) (Int32.toNatClampNeg x6)), .int x8] rfl (fun _ => rfl) rfl ?_
      refine dw_if (fun t => Φ t) ((Int32.toInt x8) = (Int32.toInt (m.1 (x0 + 4) (Int32.toNatClampNeg x6)))) [] 190 186 rfl (fun _ => rfl) (fun c2 => ?_) (fun c2 => ?_)
      · refine dw_g rfl ?_
        refine dw_s (pc' := 191) [.int (0 : Int32)] rfl (fun _ => rfl) ?_
        exact dw_j rfl (fun lv1 hv => k_X10_layLevels_b191 (Φ := (fun t => Φ t)) x0 x1 x4 x5 x6 x7 s0 (0 : Int32) m (fun _a _b => kR _a _b) k80 k68 k57 (hv.1 _ rfl) (hv.2.1 _ rfl) (hv.2.2.1 _ rfl) (hv.2.2.2.1 _ rfl) (hv.2.2.2.2.1 _ rfl) (hv.2.2.2.2.2.1 _ rfl) (hv.2.2.2.2.2.2.1 _ rfl))
      · refine dw_g rfl ?_
        refine dg_s (pc' := 187) [.int (1 : Int32)] rfl (fun _ => rfl) rfl ?_
        refine dw_s (pc' := 191) [.int (1 : Int32)] rfl (fun _ => rfl) ?_
        exact dw_j rfl (fun lv1 hv => k_X10_layLevels_b191 (Φ := (fun t => Φ t)) x0 x1 x4 x5 x6 x7 s0 (1 : Int32) m (fun _a _b => kR _a _b) k80 k68 k57 (hv.1 _ rfl) (hv.2.1 _ rfl) (hv.2.2.1 _ rfl) (hv.2.2.2.1 _ rfl) (hv.2.2.2.2.1 _ rfl) (hv.2.2.2.2.2.1 _ rfl) (hv.2.2.2.2.2.2.1 _ rfl))
noncomputable def d_X10_layLevels_l80b (x0 : Nat) (x1 : Int32) (x5 : Int32) (x3 : Int32) (x4 : Int32) (x6 : Int32) (m : dc_M) : Option ((Int32 × Int32 × Int32 × dc_M) ⊕ ((Int32 × Int32 × Int32 × dc_M) ⊕ ((Int32 × Int32 × dc_M) ⊕ (Int32 × dc_M)))) :=
  (if (Int32.toInt (m.1 x0 3)) ≤ (Int32.toInt x6) then some (Sum.inr (Sum.inl (x3, x4, (x5 + (1 : Int32)), m))) else (if (Int32.toInt (m.1 (x0 + 20) (Int32.toNatClampNeg x5))) = 0 then some (Sum.inr (Sum.inl (x3, x4, (x5 + (1 : Int32)), m))) else (if (Int32.toInt (m.1 (x0 + 18) (Int32.toNatClampNeg (((16 : Int32) * x5) + x6)))) = (-4) then some (Sum.inl (x3, x4, (x6 + (1 : Int32)), m)) else (if ¬ (Int32.toInt (m.1 (x0 + 3) (Int32.toNatClampNeg x6))) = (Int32.toInt x1) then (d_X10_layLevels_b157 x0 x1 x3 x4 x5 x6 (m.1 (x0 + 18) (Int32.toNatClampNeg (((16 : Int32) * x5) + x6))) (((m.1 (x0 + 19) (Int32.toNatClampNeg x5)) >>> (x1 &&& 31)) &&& (1 : Int32)) (((m.1 (x0 + 19) (Int32.toNatClampNeg x5)) >>> (x1 &&& 31)) &&& (1 : Int32)) m) else (d_X10_layLevels_b157 x0 x1 x3 x4 x5 x6 (m.1 (x0 + 18) (Int32.toNatClampNeg (((16 : Int32) * x5) + x6))) (((m.1 (x0 + 19) (Int32.toNatClampNeg x5)) >>> (x1 &&& 31)) &&& (1 : Int32)) (m.1 (x0 + 4) (Int32.toNatClampNeg x6)) m)))))
noncomputable def d_X10_layLevels_l80s (x0 : Nat) (x1 : Int32) (x5 : Int32) : (Int32 × Int32 × Int32 × dc_M) → Option ((Int32 × Int32 × Int32 × dc_M) ⊕ ((Int32 × Int32 × Int32 × dc_M) ⊕ ((Int32 × Int32 × dc_M) ⊕ (Int32 × dc_M)))) := fun s => d_X10_layLevels_l80b x0 x1 x5 s.1 s.2.1 s.2.2.1 s.2.2.2
noncomputable def d_X10_layLevels_l80 (x0 : Nat) (x1 : Int32) (x5 : Int32) (x3 : Int32) (x4 : Int32) (x6 : Int32) (m : dc_M) : Option ((Int32 × Int32 × Int32 × dc_M) ⊕ ((Int32 × Int32 × dc_M) ⊕ (Int32 × dc_M))) := dc_lp (d_X10_layLevels_l80s x0 x1 x5) (x3, x4, x6, m)
set_option maxHeartbeats 8000000 in
theorem k_X10_layLevels_l80 {u : Nat} {Φ : (Option ((Int32 × Int32 × Int32 × dc_M) ⊕ ((Int32 × Int32 × dc_M) ⊕ (Int32 × dc_M)))) → Option Value → dc_M → Prop} (x0 : Nat) (x1 : Int32) (x5 : Int32) (kR : ∀ (v : Int32) (m : dc_M), Φ (some (Sum.inr (Sum.inr ((v, m))))) (some (.int v)) m) : ∀ (N : Nat), (∀ (x3 : Int32) (x4 : Int32) (x5 : Int32) (m : dc_M) (lv : ab_L), ab_lk lv 0 = some (.ref x0) → ab_lk lv 1 = some (.int x1) → ab_lk lv 3 = some (.int x3) → ab_lk lv 4 = some (.int x4) → ab_lk lv 5 = some (.int x5) →  dc_pv u N ab_M_X10_layLevels 68 lv [] m (Φ (some (Sum.inl (x3, x4, x5, m))))) → (∀ (x3 : Int32) (x4 : Int32) (m : dc_M) (lv : ab_L), ab_lk lv 0 = some (.ref x0) → ab_lk lv 1 = some (.int x1) → ab_lk lv 3 = some (.int x3) → ab_lk lv 4 = some (.int x4) →  dc_pv u N ab_M_X10_layLevels 57 lv [] m (Φ (some (Sum.inr (Sum.inl (x3, x4, m)))))) → ∀ (x3 : Int32) (x4 : Int32) (x6 : Int32) (m : dc_M) (lv : ab_L), ab_lk lv 0 = some (.ref x0) → ab_lk lv 1 = some (.int x1) → ab_lk lv 3 = some (.int x3) → ab_lk lv 4 = some (.int x4) → ab_lk lv 5 = some (.int x5) → ab_lk lv 6 = some (.int x6) → dc_pv u N ab_M_X10_layLevels 80 lv [] m (Φ (d_X10_layLevels_l80 x0 x1 x5 x3 x4 x6 m)) := by
  intro N
  induction N with
  | zero => intros; exact dc_pv_zero
  | succ N ih =>
    intro k68 k57 x3 x4 x6 m lv f0 f1 f3 f4 f5 f6
    have k68 := fun a0 a1 a2 a3 a4 a5 a6 a7 a8 a9 => (k68 a0 a1 a2 a3 a4 a5 a6 a7 a8 a9).mono (Nat.le_succ N)
    have k57 := fun a0 a1 a2 a3 a4 a5 a6 a7 => (k57 a0 a1 a2 a3 a4 a5 a6 a7).mono (Nat.le_succ N)
    have ih := ih k68 k57
    refine dc_ok (C := C_X10_layLevels) (S := S_X10_layLevels) CO_X10_layLevels 400 80 [(0, .ref x0), (1, .int x1), (3, .int x3), (4, .int x4), (5, .int x5), (6, .int x6)] lv [] m (dc_sub_cons f0 (dc_sub_cons f1 (dc_sub_cons f3 (dc_sub_cons f4 (dc_sub_cons f5 (dc_sub_cons f6 (dc_sub_nil))))))) ?_
    unfold d_X10_layLevels_l80
    rw [dc_lp_eq]
    show (fun t x => dc_lf u N ab_M_X10_layLevels (Φ (Option.bind t (dc_bk (d_X10_layLevels_l80s x0 x1 x5)))) x) (d_X10_layLevels_l80b x0 x1 x5 x3 x4 x6 m) _
    dsimp only
    unfold d_X10_layLevels_l80b
    refine dg_s (pc' := 82) [.int x6] rfl (fun _ => rfl) rfl ?_
    refine dg_s (pc' := 83) [.ref x0, .int x6] rfl (fun _ => rfl) rfl ?_
    refine dg_s (pc' := 86) [.int (m.1 x0 3), .int x6] rfl (fun _ => rfl) rfl ?_
    refine dw_if (fun t => Φ (Option.bind t (dc_bk (d_X10_layLevels_l80s x0 x1 x5)))) ((Int32.toInt (m.1 x0 3)) ≤ (Int32.toInt x6)) [] 273 89 rfl (fun _ => rfl) (fun c0 => ?_) (fun c0 => ?_)
    · refine dw_g rfl ?_
      refine dg_L (pc' := 276) [(5, .int (x5 + (1 : Int32))), (0, .ref x0), (1, .int x1), (3, .int x3), (4, .int x4), (6, .int x6)] [] rfl (fun _ => rfl) rfl ?_
      refine dw_s (pc' := 68) [] rfl (fun _ => rfl) ?_
      exact dw_j rfl (fun lv1 hv => k68 x3 x4 (x5 + (1 : Int32)) m lv1 (hv.1 _ rfl) (hv.2.1 _ rfl) (hv.2.2.1 _ rfl) (hv.2.2.2.1 _ rfl) (hv.2.2.2.2.1 _ rfl))
    · refine dw_g rfl ?_
      refine dg_s (pc' := 90) [.ref x0] rfl (fun _ => rfl) rfl ?_
      refine dg_s (pc' := 93) [.ref (x0 + 20)] rfl (fun _ => rfl) rfl ?_
      refine dg_s (pc' := 95) [.int x5, .ref (x0 + 20)] rfl (fun _ => rfl) rfl ?_
      refine dg_s (pc' := 96) [.int (m.1 (x0 + 20) (Int32.toNatClampNeg x5))] rfl (fun _ => rfl) rfl ?_
      refine dw_if (fun t => Φ (Option.bind t (dc_bk (d_X10_layLevels_l80s x0 x1 x5)))) ((Int32.toInt (m.1 (x0 + 20) (Int32.toNatClampNeg x5))) = 0) [] 273 99 rfl (fun _ => rfl) (fun c1 => ?_) (fun c1 => ?_)
      · refine dw_g rfl ?_
        refine dg_L (pc' := 276) [(5, .int (x5 + (1 : Int32))), (0, .ref x0), (1, .int x1), (3, .int x3), (4, .int x4), (6, .int x6)] [] rfl (fun _ => rfl) rfl ?_
        refine dw_s (pc' := 68) [] rfl (fun _ => rfl) ?_
        exact dw_j rfl (fun lv1 hv => k68 x3 x4 (x5 + (1 : Int32)) m lv1 (hv.1 _ rfl) (hv.2.1 _ rfl) (hv.2.2.1 _ rfl) (hv.2.2.2.1 _ rfl) (hv.2.2.2.2.1 _ rfl))
      · refine dw_g rfl ?_
        refine dg_s (pc' := 100) [.ref x0] rfl (fun _ => rfl) rfl ?_
        refine dg_s (pc' := 103) [.ref (x0 + 18)] rfl (fun _ => rfl) rfl ?_
        refine dg_s (pc' := 105) [.int (16 : Int32), .ref (x0 + 18)] rfl (fun _ => rfl) rfl ?_
        refine dg_s (pc' := 107) [.int x5, .int (16 : Int32), .ref (x0 + 18)] rfl (fun _ => rfl) rfl ?_
        refine dg_s (pc' := 108) [.int ((16 : Int32) * x5), .ref (x0 + 18)] rfl (fun _ => rfl) rfl ?_
        refine dg_s (pc' := 110) [.int x6, .int ((16 : Int32) * x5), .ref (x0 + 18)] rfl (fun _ => rfl) rfl ?_
        refine dg_s (pc' := 111) [.int (((16 : Int32) * x5) + x6), .ref (x0 + 18)] rfl (fun _ => rfl) rfl ?_
        refine dg_s (pc' := 112) [.int (m.1 (x0 + 18) (Int32.toNatClampNeg (((16 : Int32) * x5) + x6)))] rfl (fun _ => rfl) rfl ?_
        refine dg_L (pc' := 114) [(7, .int (m.1 (x0 + 18) (Int32.toNatClampNeg (((16 : Int32) * x5) + x6)))), (0, .ref x0), (1, .int x1), (3, .int x3), (4, .int x4), (5, .int x5), (6, .int x6)] [] rfl (fun _ => rfl) rfl ?_
        refine dg_s (pc' := 116) [.int (m.1 (x0 + 18) (Int32.toNatClampNeg (((16 : Int32) * x5) + x6)))] rfl (fun _ => rfl) rfl ?_
        refine dg_s (pc' := 118) [.int (-4 : Int32), .int (m.1 (x0 + 18) (Int32.toNatClampNeg (((16 : Int32) * x5) + x6)))] rfl (fun _ => rfl) rfl ?_
        refine dw_if (fun t => Φ (Option.bind t (dc_bk (d_X10_layLevels_l80s x0 x1 x5)))) ((Int32.toInt (m.1 (x0 + 18) (Int32.toNatClampNeg (((16 : Int32) * x5) + x6)))) = (-4)) [] 267 121 rfl (fun _ => rfl) (fun c2 => ?_) (fun c2 => ?_)
        · refine dw_g rfl ?_
          refine dg_L (pc' := 270) [(6, .int (x6 + (1 : Int32))), (7, .int (m.1 (x0 + 18) (Int32.toNatClampNeg (((16 : Int32) * x5) + x6)))), (0, .ref x0), (1, .int x1), (3, .int x3), (4, .int x4), (5, .int x5)] [] rfl (fun _ => rfl) rfl ?_
          refine dw_s (pc' := 80) [] rfl (fun _ => rfl) ?_
          exact dw_j rfl (fun lv1 hv => ih x3 x4 (x6 + (1 : Int32)) m lv1 (hv.1 _ rfl) (hv.2.1 _ rfl) (hv.2.2.1 _ rfl) (hv.2.2.2.1 _ rfl) (hv.2.2.2.2.1 _ rfl) (hv.2.2.2.2.2.1 _ rfl))
        · refine dw_g rfl ?_
          refine dg_s (pc' := 122) [.ref x0] rfl (fun _ => rfl) rfl ?_
          refine dg_s (pc' := 125) [.ref (x0 + 19)] rfl (fun _ => rfl) rfl ?_
          refine dg_s (pc' := 127) [.int x5, .ref (x0 + 19)] rfl (fun _ => rfl) rfl ?_
          refine dg_s (pc' := 128) [.int (m.1 (x0 + 19) (Int32.toNatClampNeg x5))] rfl (fun _ => rfl) rfl ?_
          refine dg_s (pc' := 129) [.int x1, .int (m.1 (x0 + 19) (Int32.toNatClampNeg x5))] rfl (fun _ => rfl) rfl ?_
          refine dg_s (pc' := 130) [.int ((m.1 (x0 + 19) (Int32.toNatClampNeg x5)) >>> (x1 &&& 31))] rfl (fun _ => rfl) rfl ?_
          refine dg_s (pc' := 131) [.int (1 : Int32), .int ((m.1 (x0 + 19) (Int32.toNatClampNeg x5)) >>> (x1 &&& 31))] rfl (fun _ => rfl) rfl ?_
          refine dg_s (pc' := 132) [.int (((m.1 (x0 + 19) (Int32.toNatClampNeg x5)) >>> (x1 &&& 31)) &&& (1 : Int32))] rfl (fun _ => rfl) rfl ?_
          refine dg_L (pc' := 134) [(8, .int (((m.1 (x0 + 19) (Int32.toNatClampNeg x5)) >>> (x1 &&& 31)) &&& (1 : Int32))), (7, .int (m.1 (x0 + 18) (Int32.toNatClampNeg (((16 : Int32) * x5) + x6)))), (0, .ref x0), (1, .int x1), (3, .int x3), (4, .int x4), (5, .int x5), (6, .int x6)] [] rfl (fun _ => rfl) rfl ?_
          refine dg_s (pc' := 135) [.ref x0] rfl (fun _ => rfl) rfl ?_
          refine dg_s (pc' := 138) [.ref (x0 + 3)] rfl (fun _ => rfl) rfl ?_
          refine dg_s (pc' := 140) [.int x6, .ref (x0 + 3)] rfl (fun _ => rfl) rfl ?_
          refine dg_s (pc' := 141) [.int (m.1 (x0 + 3) (Int32.toNatClampNeg x6))] rfl (fun _ => rfl) rfl ?_
          refine dg_s (pc' := 142) [.int x1, .int (m.1 (x0 + 3) (Int32.toNatClampNeg x6))] rfl (fun _ => rfl) rfl ?_
          refine dw_if (fun t => Φ (Option.bind t (dc_bk (d_X10_layLevels_l80s x0 x1 x5)))) (¬ (Int32.toInt (m.1 (x0 + 3) (Int32.toNatClampNeg x6))) = (Int32.toInt x1)) [] 155 145 rfl (fun _ => rfl) (fun c3 => ?_) (fun c3 => ?_)
          · refine dw_g rfl ?_
            refine dw_s (pc' := 157) [.int (((m.1 (x0 + 19) (Int32.toNatClampNeg x5)) >>> (x1 &&& 31)) &&& (1 : Int32))] rfl (fun _ => rfl) ?_
            exact dw_j rfl (fun lv1 hv => k_X10_layLevels_b157 (Φ := (fun t => Φ (Option.bind t (dc_bk (d_X10_layLevels_l80s x0 x1 x5))))) x0 x1 x3 x4 x5 x6 (m.1 (x0 + 18) (Int32.toNatClampNeg (((16 : Int32) * x5) + x6))) (((m.1 (x0 + 19) (Int32.toNatClampNeg x5)) >>> (x1 &&& 31)) &&& (1 : Int32)) (((m.1 (x0 + 19) (Int32.toNatClampNeg x5)) >>> (x1 &&& 31)) &&& (1 : Int32)) m (fun _a _b => kR _a _b) ih k68 k57 (hv.1 _ rfl) (hv.2.1 _ rfl) (hv.2.2.1 _ rfl) (hv.2.2.2.1 _ rfl) (hv.2.2.2.2.1 _ rfl) (hv.2.2.2.2.2.1 _ rfl) (hv.2.2.2.2.2.2.1 _ rfl) (hv.2.2.2.2.2.2.2.1 _ rfl))
          · refine dw_g rfl ?_
            refine dg_s (pc' := 146) [.ref x0] rfl (fun _ => rfl) rfl ?_
            refine dg_s (pc' := 149) [.ref (x0 + 4)] rfl (fun _ => rfl) rfl ?_
            refine dg_s (pc' := 151) [.int x6, .ref (x0 + 4)] rfl (fun _ => rfl) rfl ?_
            refine dg_s (pc' := 152) [.int (m.1 (x0 + 4) (Int32.toNatClampNeg x6))] rfl (fun _ => rfl) rfl ?_
            refine dw_s (pc' := 157) [.int (m.1 (x0 + 4) (Int32.toNatClampNeg x6))] rfl (fun _ => rfl) ?_
            exact dw_j rfl (fun lv1 hv => k_X10_layLevels_b157 (Φ := (fun t => Φ (Option.bind t (dc_bk (d_X10_layLevels_l80s x0 x1 x5))))) x0 x1 x3 x4 x5 x6 (m.1 (x0 + 18) (Int32.toNatClampNeg (((16 : Int32) * x5) + x6))) (((m.1 (x0 + 19) (Int32.toNatClampNeg x5)) >>> (x1 &&& 31)) &&& (1 : Int32)) (m.1 (x0 + 4) (Int32.toNatClampNeg x6)) m (fun _a _b => kR _a _b) ih k68 k57 (hv.1 _ rfl) (hv.2.1 _ rfl) (hv.2.2.1 _ rfl) (hv.2.2.2.1 _ rfl) (hv.2.2.2.2.1 _ rfl) (hv.2.2.2.2.2.1 _ rfl) (hv.2.2.2.2.2.2.1 _ rfl) (hv.2.2.2.2.2.2.2.1 _ rfl))
noncomputable def d_X10_layLevels_l68b (x0 : Nat) (x1 : Int32) (x3 : Int32) (x4 : Int32) (x5 : Int32) (m : dc_M) : Option ((Int32 × Int32 × Int32 × dc_M) ⊕ ((Int32 × Int32 × dc_M) ⊕ (Int32 × dc_M))) :=
  (if (Int32.toInt (m.1 x0 32)) ≤ (Int32.toInt x5) then some (Sum.inr (Sum.inl (x3, x4, m))) else (d_X10_layLevels_l80 x0 x1 x5 x3 x4 (0 : Int32) m))
noncomputable def d_X10_layLevels_l68s (x0 : Nat) (x1 : Int32) : (Int32 × Int32 × Int32 × dc_M) → Option ((Int32 × Int32 × Int32 × dc_M) ⊕ ((Int32 × Int32 × dc_M) ⊕ (Int32 × dc_M))) := fun s => d_X10_layLevels_l68b x0 x1 s.1 s.2.1 s.2.2.1 s.2.2.2
noncomputable def d_X10_layLevels_l68 (x0 : Nat) (x1 : Int32) (x3 : Int32) (x4 : Int32) (x5 : Int32) (m : dc_M) : Option ((Int32 × Int32 × dc_M) ⊕ (Int32 × dc_M)) := dc_lp (d_X10_layLevels_l68s x0 x1) (x3, x4, x5, m)
set_option maxHeartbeats 8000000 in
theorem k_X10_layLevels_l68 {u : Nat} {Φ : (Option ((Int32 × Int32 × dc_M) ⊕ (Int32 × dc_M))) → Option Value → dc_M → Prop} (x0 : Nat) (x1 : Int32) (kR : ∀ (v : Int32) (m : dc_M), Φ (some (Sum.inr ((v, m)))) (some (.int v)) m) : ∀ (N : Nat), (∀ (x3 : Int32) (x4 : Int32) (m : dc_M) (lv : ab_L), ab_lk lv 0 = some (.ref x0) → ab_lk lv 1 = some (.int x1) → ab_lk lv 3 = some (.int x3) → ab_lk lv 4 = some (.int x4) →  dc_pv u N ab_M_X10_layLevels 57 lv [] m (Φ (some (Sum.inl (x3, x4, m))))) → ∀ (x3 : Int32) (x4 : Int32) (x5 : Int32) (m : dc_M) (lv : ab_L), ab_lk lv 0 = some (.ref x0) → ab_lk lv 1 = some (.int x1) → ab_lk lv 3 = some (.int x3) → ab_lk lv 4 = some (.int x4) → ab_lk lv 5 = some (.int x5) → dc_pv u N ab_M_X10_layLevels 68 lv [] m (Φ (d_X10_layLevels_l68 x0 x1 x3 x4 x5 m)) := by
  intro N
  induction N with
  | zero => intros; exact dc_pv_zero
  | succ N ih =>
    intro k57 x3 x4 x5 m lv f0 f1 f3 f4 f5
    have k57 := fun a0 a1 a2 a3 a4 a5 a6 a7 => (k57 a0 a1 a2 a3 a4 a5 a6 a7).mono (Nat.le_succ N)
    have ih := ih k57
    refine dc_ok (C := C_X10_layLevels) (S := S_X10_layLevels) CO_X10_layLevels 400 68 [(0, .ref x0), (1, .int x1), (3, .int x3), (4, .int x4), (5, .int x5)] lv [] m (dc_sub_cons f0 (dc_sub_cons f1 (dc_sub_cons f3 (dc_sub_cons f4 (dc_sub_cons f5 (dc_sub_nil)))))) ?_
    unfold d_X10_layLevels_l68
    rw [dc_lp_eq]
    show (fun t x => dc_lf u N ab_M_X10_layLevels (Φ (Option.bind t (dc_bk (d_X10_layLevels_l68s x0 x1)))) x) (d_X10_layLevels_l68b x0 x1 x3 x4 x5 m) _
    dsimp only
    unfold d_X10_layLevels_l68b
    refine dg_s (pc' := 70) [.int x5] rfl (fun _ => rfl) rfl ?_
    refine dg_s (pc' := 71) [.ref x0, .int x5] rfl (fun _ => rfl) rfl ?_
    refine dg_s (pc' := 74) [.int (m.1 x0 32), .int x5] rfl (fun _ => rfl) rfl ?_
    refine dw_if (fun t => Φ (Option.bind t (dc_bk (d_X10_layLevels_l68s x0 x1)))) ((Int32.toInt (m.1 x0 32)) ≤ (Int32.toInt x5)) [] 279 77 rfl (fun _ => rfl) (fun c0 => ?_) (fun c0 => ?_)
    · refine dw_g rfl ?_
      refine dw_s (pc' := 57) [] rfl (fun _ => rfl) ?_
      exact dw_j rfl (fun lv1 hv => k57 x3 x4 m lv1 (hv.1 _ rfl) (hv.2.1 _ rfl) (hv.2.2.1 _ rfl) (hv.2.2.2.1 _ rfl))
    · refine dw_g rfl ?_
      refine dg_s (pc' := 78) [.int (0 : Int32)] rfl (fun _ => rfl) rfl ?_
      refine dw_L (pc' := 80) [(6, .int (0 : Int32)), (0, .ref x0), (1, .int x1), (3, .int x3), (4, .int x4), (5, .int x5)] [] rfl (fun _ => rfl) ?_
      exact dw_j rfl (fun lv1 hv => k_X10_layLevels_l80 (Φ := (fun t => Φ (Option.bind t (dc_bk (d_X10_layLevels_l68s x0 x1))))) x0 x1 x5 (fun _a _b => kR _a _b) N ih k57 x3 x4 (0 : Int32) m lv1 (hv.1 _ rfl) (hv.2.1 _ rfl) (hv.2.2.1 _ rfl) (hv.2.2.2.1 _ rfl) (hv.2.2.2.2.1 _ rfl) (hv.2.2.2.2.2.1 _ rfl))
noncomputable def d_X10_layLevels_l57b (x0 : Nat) (x1 : Int32) (x3 : Int32) (x4 : Int32) (m : dc_M) : Option ((Int32 × Int32 × dc_M) ⊕ (Int32 × dc_M)) :=
  (if (Int32.toInt x4) = 0 then some (Sum.inr ((x3, m))) else (d_X10_layLevels_l68 x0 x1 x3 (0 : Int32) (0 : Int32) m))
noncomputable def d_X10_layLevels_l57s (x0 : Nat) (x1 : Int32) : (Int32 × Int32 × dc_M) → Option ((Int32 × Int32 × dc_M) ⊕ (Int32 × dc_M)) := fun s => d_X10_layLevels_l57b x0 x1 s.1 s.2.1 s.2.2
noncomputable def d_X10_layLevels_l57 (x0 : Nat) (x1 : Int32) (x3 : Int32) (x4 : Int32) (m : dc_M) : Option (Int32 × dc_M) := dc_lp (d_X10_layLevels_l57s x0 x1) (x3, x4, m)
set_option maxHeartbeats 8000000 in
theorem k_X10_layLevels_l57 {u : Nat} {Φ : (Option (Int32 × dc_M)) → Option Value → dc_M → Prop} (x0 : Nat) (x1 : Int32) (kR : ∀ (v : Int32) (m : dc_M), Φ (some ((v, m))) (some (.int v)) m) : ∀ (N : Nat), ∀ (x3 : Int32) (x4 : Int32) (m : dc_M) (lv : ab_L), ab_lk lv 0 = some (.ref x0) → ab_lk lv 1 = some (.int x1) → ab_lk lv 3 = some (.int x3) → ab_lk lv 4 = some (.int x4) → dc_pv u N ab_M_X10_layLevels 57 lv [] m (Φ (d_X10_layLevels_l57 x0 x1 x3 x4 m)) := by
  intro N
  induction N with
  | zero => intros; exact dc_pv_zero
  | succ N ih =>
    intro x3 x4 m lv f0 f1 f3 f4
    refine dc_ok (C := C_X10_layLevels) (S := S_X10_layLevels) CO_X10_layLevels 400 57 [(0, .ref x0), (1, .int x1), (3, .int x3), (4, .int x4)] lv [] m (dc_sub_cons f0 (dc_sub_cons f1 (dc_sub_cons f3 (dc_sub_cons f4 (dc_sub_nil))))) ?_
    unfold d_X10_layLevels_l57
    rw [dc_lp_eq]
    show (fun t x => dc_lf u N ab_M_X10_layLevels (Φ (Option.bind t (dc_bk (d_X10_layLevels_l57s x0 x1)))) x) (d_X10_layLevels_l57b x0 x1 x3 x4 m) _
    dsimp only
    unfold d_X10_layLevels_l57b
    refine dg_s (pc' := 59) [.int x4] rfl (fun _ => rfl) rfl ?_
    refine dw_if (fun t => Φ (Option.bind t (dc_bk (d_X10_layLevels_l57s x0 x1)))) ((Int32.toInt x4) = 0) [] 282 62 rfl (fun _ => rfl) (fun c0 => ?_) (fun c0 => ?_)
    · refine dw_g rfl ?_
      refine dg_s (pc' := 283) [.int x3] rfl (fun _ => rfl) rfl ?_
      exact dw_r (some (.inl (some (.int x3), m))) rfl (fun _ => rfl) (kR _ _)
    · refine dw_g rfl ?_
      refine dg_s (pc' := 63) [.int (0 : Int32)] rfl (fun _ => rfl) rfl ?_
      refine dg_L (pc' := 65) [(4, .int (0 : Int32)), (0, .ref x0), (1, .int x1), (3, .int x3)] [] rfl (fun _ => rfl) rfl ?_
      refine dg_s (pc' := 66) [.int (0 : Int32)] rfl (fun _ => rfl) rfl ?_
      refine dw_L (pc' := 68) [(5, .int (0 : Int32)), (4, .int (0 : Int32)), (0, .ref x0), (1, .int x1), (3, .int x3)] [] rfl (fun _ => rfl) ?_
      exact dw_j rfl (fun lv1 hv => k_X10_layLevels_l68 (Φ := (fun t => Φ (Option.bind t (dc_bk (d_X10_layLevels_l57s x0 x1))))) x0 x1 (fun _a _b => kR _a _b) N ih x3 (0 : Int32) (0 : Int32) m lv1 (hv.1 _ rfl) (hv.2.1 _ rfl) (hv.2.2.1 _ rfl) (hv.2.2.2.1 _ rfl) (hv.2.2.2.2.1 _ rfl))
noncomputable def d_X10_layLevels_b23 (x0 : Nat) (x1 : Int32) (x2 : Int32) (m : dc_M) : Option (Int32 × dc_M) :=
  (d_X10_layLevels_l57 x0 x1 (1 : Int32) (1 : Int32) (dc_wi (dc_wi m (x0 + 20) (Int32.toNatClampNeg (0 : Int32)) (dc_nar (m.2.2.2 (x0 + 20)).1 (1 : Int32))) (x0 + 19) (Int32.toNatClampNeg (0 : Int32)) ((((dc_wi m (x0 + 20) (Int32.toNatClampNeg (0 : Int32)) (dc_nar (m.2.2.2 (x0 + 20)).1 (1 : Int32))).1 (x0 + 19) (Int32.toNatClampNeg (0 : Int32))) &&& (((1 : Int32) <<< (x1 &&& 31)) ^^^ (-1 : Int32))) ||| (x2 <<< (x1 &&& 31)))))
set_option maxHeartbeats 8000000 in
theorem k_X10_layLevels_b23 {u : Nat} {N : Nat} {Φ : (Option (Int32 × dc_M)) → Option Value → dc_M → Prop} (x0 : Nat) (x1 : Int32) (x2 : Int32) (m : dc_M) (kR : ∀ (v : Int32) (m : dc_M), Φ (some ((v, m))) (some (.int v)) m)  {lv : ab_L} (f0 : ab_lk lv 0 = some (.ref x0)) (f1 : ab_lk lv 1 = some (.int x1)) (f2 : ab_lk lv 2 = some (.int x2)) : dc_pv u N ab_M_X10_layLevels 23 lv [] m (Φ (d_X10_layLevels_b23 x0 x1 x2 m)) := by
  refine dc_pv.mono (dc_ok (C := C_X10_layLevels) (S := S_X10_layLevels) CO_X10_layLevels 400 23 [(0, .ref x0), (1, .int x1), (2, .int x2)] lv [] m (dc_sub_cons f0 (dc_sub_cons f1 (dc_sub_cons f2 (dc_sub_nil)))) ?_) (Nat.le_succ N)
  unfold d_X10_layLevels_b23
  refine dg_s (pc' := 24) [.ref x0] rfl (fun _ => rfl) rfl ?_
  refine dg_s (pc' := 27) [.ref (x0 + 20)] rfl (fun _ => rfl) rfl ?_
  refine dg_s (pc' := 28) [.int (0 : Int32), .ref (x0 + 20)] rfl (fun _ => rfl) rfl ?_
  refine dg_s (pc' := 29) [.int (1 : Int32), .int (0 : Int32), .ref (x0 + 20)] rfl (fun _ => rfl) rfl ?_
  refine dg_m (pc' := 30) (dc_wi m (x0 + 20) (Int32.toNatClampNeg (0 : Int32)) (dc_nar (m.2.2.2 (x0 + 20)).1 (1 : Int32))) [] rfl (fun _ => rfl) rfl ?_
  refine dg_s (pc' := 31) [.ref x0] rfl (fun _ => rfl) rfl ?_
  refine dg_s (pc' := 34) [.ref (x0 + 19)] rfl (fun _ => rfl) rfl ?_
  refine dg_s (pc' := 35) [.int (0 : Int32), .ref (x0 + 19)] rfl (fun _ => rfl) rfl ?_
  refine dg_s (pc' := 36) [.ref x0, .int (0 : Int32), .ref (x0 + 19)] rfl (fun _ => rfl) rfl ?_
  refine dg_s (pc' := 39) [.ref (x0 + 19), .int (0 : Int32), .ref (x0 + 19)] rfl (fun _ => rfl) rfl ?_
  refine dg_s (pc' := 40) [.int (0 : Int32), .ref (x0 + 19), .int (0 : Int32), .ref (x0 + 19)] rfl (fun _ => rfl) rfl ?_
  refine dg_s (pc' := 41) [.int ((dc_wi m (x0 + 20) (Int32.toNatClampNeg (0 : Int32)) (dc_nar (m.2.2.2 (x0 + 20)).1 (1 : Int32))).1 (x0 + 19) (Int32.toNatClampNeg (0 : Int32))), .int (0 : Int32), .ref (x0 + 19)] rfl (fun _ => rfl) rfl ?_
  refine dg_s (pc' := 42) [.int (1 : Int32), .int ((dc_wi m (x0 + 20) (Int32.toNatClampNeg (0 : Int32)) (dc_nar (m.2.2.2 (x0 + 20)).1 (1 : Int32))).1 (x0 + 19) (Int32.toNatClampNeg (0 : Int32))), .int (0 : Int32), .ref (x0 + 19)] rfl (fun _ => rfl) rfl ?_
  refine dg_s (pc' := 43) [.int x1, .int (1 : Int32), .int ((dc_wi m (x0 + 20) (Int32.toNatClampNeg (0 : Int32)) (dc_nar (m.2.2.2 (x0 + 20)).1 (1 : Int32))).1 (x0 + 19) (Int32.toNatClampNeg (0 : Int32))), .int (0 : Int32), .ref (x0 + 19)] rfl (fun _ => rfl) rfl ?_
  refine dg_s (pc' := 44) [.int ((1 : Int32) <<< (x1 &&& 31)), .int ((dc_wi m (x0 + 20) (Int32.toNatClampNeg (0 : Int32)) (dc_nar (m.2.2.2 (x0 + 20)).1 (1 : Int32))).1 (x0 + 19) (Int32.toNatClampNeg (0 : Int32))), .int (0 : Int32), .ref (x0 + 19)] rfl (fun _ => rfl) rfl ?_
  refine dg_s (pc' := 45) [.int (-1 : Int32), .int ((1 : Int32) <<< (x1 &&& 31)), .int ((dc_wi m (x0 + 20) (Int32.toNatClampNeg (0 : Int32)) (dc_nar (m.2.2.2 (x0 + 20)).1 (1 : Int32))).1 (x0 + 19) (Int32.toNatClampNeg (0 : Int32))), .int (0 : Int32), .ref (x0 + 19)] rfl (fun _ => rfl) rfl ?_
  refine dg_s (pc' := 46) [.int (((1 : Int32) <<< (x1 &&& 31)) ^^^ (-1 : Int32)), .int ((dc_wi m (x0 + 20) (Int32.toNatClampNeg (0 : Int32)) (dc_nar (m.2.2.2 (x0 + 20)).1 (1 : Int32))).1 (x0 + 19) (Int32.toNatClampNeg (0 : Int32))), .int (0 : Int32), .ref (x0 + 19)] rfl (fun _ => rfl) rfl ?_
  refine dg_s (pc' := 47) [.int (((dc_wi m (x0 + 20) (Int32.toNatClampNeg (0 : Int32)) (dc_nar (m.2.2.2 (x0 + 20)).1 (1 : Int32))).1 (x0 + 19) (Int32.toNatClampNeg (0 : Int32))) &&& (((1 : Int32) <<< (x1 &&& 31)) ^^^ (-1 : Int32))), .int (0 : Int32), .ref (x0 + 19)] rfl (fun _ => rfl) rfl ?_
  refine dg_s (pc' := 48) [.int x2, .int (((dc_wi m (x0 + 20) (Int32.toNatClampNeg (0 : Int32)) (dc_nar (m.2.2.2 (x0 + 20)).1 (1 : Int32))).1 (x0 + 19) (Int32.toNatClampNeg (0 : Int32))) &&& (((1 : Int32) <<< (x1 &&& 31)) ^^^ (-1 : Int32))), .int (0 : Int32), .ref (x0 + 19)] rfl (fun _ => rfl) rfl ?_
  refine dg_s (pc' := 49) [.int x1, .int x2, .int (((dc_wi m (x0 + 20) (Int32.toNatClampNeg (0 : Int32)) (dc_nar (m.2.2.2 (x0 + 20)).1 (1 : Int32))).1 (x0 + 19) (Int32.toNatClampNeg (0 : Int32))) &&& (((1 : Int32) <<< (x1 &&& 31)) ^^^ (-1 : Int32))), .int (0 : Int32), .ref (x0 + 19)] rfl (fun _ => rfl) rfl ?_
  refine dg_s (pc' := 50) [.int (x2 <<< (x1 &&& 31)), .int (((dc_wi m (x0 + 20) (Int32.toNatClampNeg (0 : Int32)) (dc_nar (m.2.2.2 (x0 + 20)).1 (1 : Int32))).1 (x0 + 19) (Int32.toNatClampNeg (0 : Int32))) &&& (((1 : Int32) <<< (x1 &&& 31)) ^^^ (-1 : Int32))), .int (0 : Int32), .ref (x0 + 19)] rfl (fun _ => rfl) rfl ?_
  refine dg_s (pc' := 51) [.int ((((dc_wi m (x0 + 20) (Int32.toNatClampNeg (0 : Int32)) (dc_nar (m.2.2.2 (x0 + 20)).1 (1 : Int32))).1 (x0 + 19) (Int32.toNatClampNeg (0 : Int32))) &&& (((1 : Int32) <<< (x1 &&& 31)) ^^^ (-1 : Int32))) ||| (x2 <<< (x1 &&& 31))), .int (0 : Int32), .ref (x0 + 19)] rfl (fun _ => rfl) rfl ?_
  refine dg_m (pc' := 52) (dc_wi (dc_wi m (x0 + 20) (Int32.toNatClampNeg (0 : Int32)) (dc_nar (m.2.2.2 (x0 + 20)).1 (1 : Int32))) (x0 + 19) (Int32.toNatClampNeg (0 : Int32)) ((((dc_wi m (x0 + 20) (Int32.toNatClampNeg (0 : Int32)) (dc_nar (m.2.2.2 (x0 + 20)).1 (1 : Int32))).1 (x0 + 19) (Int32.toNatClampNeg (0 : Int32))) &&& (((1 : Int32) <<< (x1 &&& 31)) ^^^ (-1 : Int32))) ||| (x2 <<< (x1 &&& 31)))) [] rfl (fun _ => rfl) rfl ?_
  refine dg_s (pc' := 53) [.int (1 : Int32)] rfl (fun _ => rfl) rfl ?_
  refine dg_L (pc' := 54) [(3, .int (1 : Int32)), (0, .ref x0), (1, .int x1), (2, .int x2)] [] rfl (fun _ => rfl) rfl ?_
  refine dg_s (pc' := 55) [.int (1 : Int32)] rfl (fun _ => rfl) rfl ?_
  refine dw_L (pc' := 57) [(4, .int (1 : Int32)), (3, .int (1 : Int32)), (0, .ref x0), (1, .int x1), (2, .int x2)] [] rfl (fun _ => rfl) ?_
  exact dw_j rfl (fun lv1 hv => k_X10_layLevels_l57 (Φ := (fun t => Φ t)) x0 x1 (fun _a _b => kR _a _b) N  (1 : Int32) (1 : Int32) (dc_wi (dc_wi m (x0 + 20) (Int32.toNatClampNeg (0 : Int32)) (dc_nar (m.2.2.2 (x0 + 20)).1 (1 : Int32))) (x0 + 19) (Int32.toNatClampNeg (0 : Int32)) ((((dc_wi m (x0 + 20) (Int32.toNatClampNeg (0 : Int32)) (dc_nar (m.2.2.2 (x0 + 20)).1 (1 : Int32))).1 (x0 + 19) (Int32.toNatClampNeg (0 : Int32))) &&& (((1 : Int32) <<< (x1 &&& 31)) ^^^ (-1 : Int32))) ||| (x2 <<< (x1 &&& 31)))) lv1 (hv.1 _ rfl) (hv.2.1 _ rfl) (hv.2.2.1 _ rfl) (hv.2.2.2.1 _ rfl))
noncomputable def d_X10_layLevels_l2b (x0 : Nat) (x1 : Int32) (x2 : Int32) (x3 : Int32) (m : dc_M) : Option ((Int32 × dc_M) ⊕ (Int32 × dc_M)) :=
  (if (Int32.toInt (m.1 x0 32)) ≤ (Int32.toInt x3) then ((d_X10_layLevels_b23 x0 x1 x2 m).map (fun z => Sum.inr (z))) else some (Sum.inl ((x3 + (1 : Int32)), (dc_wi m (x0 + 20) (Int32.toNatClampNeg x3) (dc_nar (m.2.2.2 (x0 + 20)).1 (0 : Int32))))))
noncomputable def d_X10_layLevels_l2s (x0 : Nat) (x1 : Int32) (x2 : Int32) : (Int32 × dc_M) → Option ((Int32 × dc_M) ⊕ (Int32 × dc_M)) := fun s => d_X10_layLevels_l2b x0 x1 x2 s.1 s.2
noncomputable def d_X10_layLevels_l2 (x0 : Nat) (x1 : Int32) (x2 : Int32) (x3 : Int32) (m : dc_M) : Option (Int32 × dc_M) := dc_lp (d_X10_layLevels_l2s x0 x1 x2) (x3, m)
set_option maxHeartbeats 8000000 in
theorem k_X10_layLevels_l2 {u : Nat} {Φ : (Option (Int32 × dc_M)) → Option Value → dc_M → Prop} (x0 : Nat) (x1 : Int32) (x2 : Int32) (kR : ∀ (v : Int32) (m : dc_M), Φ (some ((v, m))) (some (.int v)) m) : ∀ (N : Nat), ∀ (x3 : Int32) (m : dc_M) (lv : ab_L), ab_lk lv 0 = some (.ref x0) → ab_lk lv 1 = some (.int x1) → ab_lk lv 2 = some (.int x2) → ab_lk lv 3 = some (.int x3) → dc_pv u N ab_M_X10_layLevels 2 lv [] m (Φ (d_X10_layLevels_l2 x0 x1 x2 x3 m)) := by
  intro N
  induction N with
  | zero => intros; exact dc_pv_zero
  | succ N ih =>
    intro x3 m lv f0 f1 f2 f3
    refine dc_ok (C := C_X10_layLevels) (S := S_X10_layLevels) CO_X10_layLevels 400 2 [(0, .ref x0), (1, .int x1), (2, .int x2), (3, .int x3)] lv [] m (dc_sub_cons f0 (dc_sub_cons f1 (dc_sub_cons f2 (dc_sub_cons f3 (dc_sub_nil))))) ?_
    unfold d_X10_layLevels_l2
    rw [dc_lp_eq]
    show (fun t x => dc_lf u N ab_M_X10_layLevels (Φ (Option.bind t (dc_bk (d_X10_layLevels_l2s x0 x1 x2)))) x) (d_X10_layLevels_l2b x0 x1 x2 x3 m) _
    dsimp only
    unfold d_X10_layLevels_l2b
    refine dg_s (pc' := 3) [.int x3] rfl (fun _ => rfl) rfl ?_
    refine dg_s (pc' := 4) [.ref x0, .int x3] rfl (fun _ => rfl) rfl ?_
    refine dg_s (pc' := 7) [.int (m.1 x0 32), .int x3] rfl (fun _ => rfl) rfl ?_
    refine dw_if (fun t => Φ (Option.bind t (dc_bk (d_X10_layLevels_l2s x0 x1 x2)))) ((Int32.toInt (m.1 x0 32)) ≤ (Int32.toInt x3)) [] 23 10 rfl (fun _ => rfl) (fun c0 => ?_) (fun c0 => ?_)
    · exact dw_j rfl (fun lv1 hv => k_X10_layLevels_b23 (Φ := (fun t => Φ (Option.bind (t.map (fun z => Sum.inr (z))) (dc_bk (d_X10_layLevels_l2s x0 x1 x2))))) x0 x1 x2 m (fun _a _b => kR _a _b)  (hv.1 _ rfl) (hv.2.1 _ rfl) (hv.2.2.1 _ rfl))
    · refine dw_g rfl ?_
      refine dg_s (pc' := 11) [.ref x0] rfl (fun _ => rfl) rfl ?_
      refine dg_s (pc' := 14) [.ref (x0 + 20)] rfl (fun _ => rfl) rfl ?_
      refine dg_s (pc' := 15) [.int x3, .ref (x0 + 20)] rfl (fun _ => rfl) rfl ?_
      refine dg_s (pc' := 16) [.int (0 : Int32), .int x3, .ref (x0 + 20)] rfl (fun _ => rfl) rfl ?_
      refine dg_m (pc' := 17) (dc_wi m (x0 + 20) (Int32.toNatClampNeg x3) (dc_nar (m.2.2.2 (x0 + 20)).1 (0 : Int32))) [] rfl (fun _ => rfl) rfl ?_
      refine dg_L (pc' := 20) [(3, .int (x3 + (1 : Int32))), (0, .ref x0), (1, .int x1), (2, .int x2)] [] rfl (fun _ => rfl) rfl ?_
      refine dw_s (pc' := 2) [] rfl (fun _ => rfl) ?_
      exact dw_j rfl (fun lv1 hv => ih (x3 + (1 : Int32)) (dc_wi m (x0 + 20) (Int32.toNatClampNeg x3) (dc_nar (m.2.2.2 (x0 + 20)).1 (0 : Int32))) lv1 (hv.1 _ rfl) (hv.2.1 _ rfl) (hv.2.2.1 _ rfl) (hv.2.2.2.1 _ rfl))
noncomputable def d_X10_layLevels (x0 : Nat) (x1 : Int32) (x2 : Int32) (m : dc_M) : Option (Int32 × dc_M) :=
  (d_X10_layLevels_l2 x0 x1 x2 (0 : Int32) m)
set_option maxHeartbeats 8000000 in
theorem k_X10_layLevels {u : Nat} {N : Nat} {Φ : (Option (Int32 × dc_M)) → Option Value → dc_M → Prop} (x0 : Nat) (x1 : Int32) (x2 : Int32) (m : dc_M) (kR : ∀ (v : Int32) (m : dc_M), Φ (some ((v, m))) (some (.int v)) m)  {lv : ab_L} (f0 : ab_lk lv 0 = some (.ref x0)) (f1 : ab_lk lv 1 = some (.int x1)) (f2 : ab_lk lv 2 = some (.int x2)) : dc_pv u N ab_M_X10_layLevels 0 lv [] m (Φ (d_X10_layLevels x0 x1 x2 m)) := by
  refine dc_pv.mono (dc_ok (C := C_X10_layLevels) (S := S_X10_layLevels) CO_X10_layLevels 400 0 [(0, .ref x0), (1, .int x1), (2, .int x2)] lv [] m (dc_sub_cons f0 (dc_sub_cons f1 (dc_sub_cons f2 (dc_sub_nil)))) ?_) (Nat.le_succ N)
  unfold d_X10_layLevels
  refine dg_s (pc' := 1) [.int (0 : Int32)] rfl (fun _ => rfl) rfl ?_
  refine dw_L (pc' := 2) [(3, .int (0 : Int32)), (0, .ref x0), (1, .int x1), (2, .int x2)] [] rfl (fun _ => rfl) ?_
  exact dw_j rfl (fun lv1 hv => k_X10_layLevels_l2 (Φ := (fun t => Φ t)) x0 x1 x2 (fun _a _b => kR _a _b) N  (0 : Int32) m lv1 (hv.1 _ rfl) (hv.2.1 _ rfl) (hv.2.2.1 _ rfl) (hv.2.2.2.1 _ rfl))
noncomputable def H_X10_layLevels : dc_H := fun As m k => match As with
  | [.ref x0, .int x1, .int x2] => (d_X10_layLevels x0 x1 x2 m).bind (fun q => k (some (.int q.1)) q.2)
  | _ => dc_kz
theorem H_X10_layLevels_ok {u : Nat} : dc_cok u 174 H_X10_layLevels := fun M' hG N As m k P hz hP => by
  obtain rfl : ab_M_X10_layLevels = M' := Option.some.inj hG
  unfold H_X10_layLevels at hP
  split at hP
  · rename_i x0 x1 x2
    exact dc_pv.imp (k_X10_layLevels (Φ := fun (t : Option (Int32 × dc_M)) r m' => P (t.bind (fun q => k (some (.int q.1)) q.2)) → P (k r m')) x0 x1 x2 m (fun _ _ h => h) rfl rfl rfl) (fun r m' h => h hP)
  · exact absurd hP hz
noncomputable def C_X10_layRight : List (Nat × dc_H) := [(174, H_X10_layLevels), (173, H_X10_layStates)]
theorem CO_X10_layRight {u : Nat} : dc_CO u C_X10_layRight := dc_CO_cons H_X10_layLevels_ok (dc_CO_cons H_X10_layStates_ok (dc_CO_nil))
def S_X10_layRight : List (Nat × List Nat) := [(19, [0, 1]), (42, [0, 1])]
noncomputable def d_X10_layRight_l42b (x0 : Nat) (x1 : Int32) (m : dc_M) : Option ((Int32 × dc_M) ⊕ (Int32 × dc_M)) :=
  (if (Int32.toInt (m.1 x0 0)) ≤ (Int32.toInt x1) then some (Sum.inr (((m.1 x0 37), m))) else (if (Int32.toInt (m.1 x0 37)) = 0 then some (Sum.inr (((m.1 x0 37), m))) else ((d_X10_layLevels x0 x1 (0 : Int32) m).bind (fun q1 => (if ¬ (Int32.toInt q1.1) = 0 then some (Sum.inl ((x1 + (1 : Int32)), (dc_wi q1.2 x0 37 (1 : Int32)))) else ((d_X10_layLevels x0 x1 (1 : Int32) q1.2).bind (fun q2 => (if (Int32.toInt q2.1) = 0 then some (Sum.inl ((x1 + (1 : Int32)), (dc_wi q2.2 x0 37 (0 : Int32)))) else some (Sum.inl ((x1 + (1 : Int32)), (dc_wi q2.2 x0 37 (1 : Int32))))))))))))
noncomputable def d_X10_layRight_l42s (x0 : Nat) : (Int32 × dc_M) → Option ((Int32 × dc_M) ⊕ (Int32 × dc_M)) := fun s => d_X10_layRight_l42b x0 s.1 s.2
noncomputable def d_X10_layRight_l42 (x0 : Nat) (x1 : Int32) (m : dc_M) : Option (Int32 × dc_M) := dc_lp (d_X10_layRight_l42s x0) (x1, m)
set_option maxHeartbeats 8000000 in
theorem k_X10_layRight_l42 {u : Nat} {Φ : (Option (Int32 × dc_M)) → Option Value → dc_M → Prop} (x0 : Nat) (kR : ∀ (v : Int32) (m : dc_M), Φ (some ((v, m))) (some (.int v)) m) : ∀ (N : Nat), ∀ (x1 : Int32) (m : dc_M) (lv : ab_L), ab_lk lv 0 = some (.ref x0) → ab_lk lv 1 = some (.int x1) → dc_pv u N ab_M_X10_layRight 42 lv [] m (Φ (d_X10_layRight_l42 x0 x1 m)) := by
  intro N
  induction N with
  | zero => intros; exact dc_pv_zero
  | succ N ih =>
    intro x1 m lv f0 f1
    refine dc_ok (C := C_X10_layRight) (S := S_X10_layRight) CO_X10_layRight 400 42 [(0, .ref x0), (1, .int x1)] lv [] m (dc_sub_cons f0 (dc_sub_cons f1 (dc_sub_nil))) ?_
    unfold d_X10_layRight_l42
    rw [dc_lp_eq]
    show (fun t x => dc_lf u N ab_M_X10_layRight (Φ (Option.bind t (dc_bk (d_X10_layRight_l42s x0)))) x) (d_X10_layRight_l42b x0 x1 m) _
    dsimp only
    unfold d_X10_layRight_l42b
    refine dg_s (pc' := 43) [.int x1] rfl (fun _ => rfl) rfl ?_
    refine dg_s (pc' := 44) [.ref x0, .int x1] rfl (fun _ => rfl) rfl ?_
    refine dg_s (pc' := 47) [.int (m.1 x0 0), .int x1] rfl (fun _ => rfl) rfl ?_
    refine dw_if (fun t => Φ (Option.bind t (dc_bk (d_X10_layRight_l42s x0)))) ((Int32.toInt (m.1 x0 0)) ≤ (Int32.toInt x1)) [] 90 50 rfl (fun _ => rfl) (fun c0 => ?_) (fun c0 => ?_)
    · refine dw_g rfl ?_
      refine dg_s (pc' := 91) [.ref x0] rfl (fun _ => rfl) rfl ?_
      refine dg_s (pc' := 94) [.int (m.1 x0 37)] rfl (fun _ => rfl) rfl ?_
      exact dw_r (some (.inl (some (.int (m.1 x0 37)), m))) rfl (fun _ => rfl) (kR _ _)
    · refine dw_g rfl ?_
      refine dg_s (pc' := 51) [.ref x0] rfl (fun _ => rfl) rfl ?_
      refine dg_s (pc' := 54) [.int (m.1 x0 37)] rfl (fun _ => rfl) rfl ?_
      refine dw_if (fun t => Φ (Option.bind t (dc_bk (d_X10_layRight_l42s x0)))) ((Int32.toInt (m.1 x0 37)) = 0) [] 90 57 rfl (fun _ => rfl) (fun c1 => ?_) (fun c1 => ?_)
      · refine dw_g rfl ?_
        refine dg_s (pc' := 91) [.ref x0] rfl (fun _ => rfl) rfl ?_
        refine dg_s (pc' := 94) [.int (m.1 x0 37)] rfl (fun _ => rfl) rfl ?_
        exact dw_r (some (.inl (some (.int (m.1 x0 37)), m))) rfl (fun _ => rfl) (kR _ _)
      · refine dw_g rfl ?_
        refine dg_s (pc' := 58) [.ref x0] rfl (fun _ => rfl) rfl ?_
        refine dg_s (pc' := 59) [.ref x0, .ref x0] rfl (fun _ => rfl) rfl ?_
        refine dg_s (pc' := 60) [.int x1, .ref x0, .ref x0] rfl (fun _ => rfl) rfl ?_
        refine dg_s (pc' := 61) [.int (0 : Int32), .int x1, .ref x0, .ref x0] rfl (fun _ => rfl) rfl ?_
        refine dw_b (fun t => Φ (Option.bind t (dc_bk (d_X10_layRight_l42s x0)))) (pc' := 64) (fun q1 => [.int q1.1, .ref x0]) (fun q1 => q1.2) rfl (fun _ => rfl) (fun q1 => ?_)
        refine dw_g rfl ?_
        refine dw_if (fun t => Φ (Option.bind t (dc_bk (d_X10_layRight_l42s x0)))) (¬ (Int32.toInt q1.1) = 0) [.ref x0] 76 67 rfl (fun _ => rfl) (fun c2 => ?_) (fun c2 => ?_)
        · refine dw_g rfl ?_
          refine dg_s (pc' := 77) [.int (1 : Int32), .ref x0] rfl (fun _ => rfl) rfl ?_
          refine dg_s (pc' := 81) [.int (1 : Int32), .ref x0] rfl (fun _ => rfl) rfl ?_
          refine dg_m (pc' := 84) (dc_wi q1.2 x0 37 (1 : Int32)) [] rfl (fun _ => rfl) rfl ?_
          refine dg_L (pc' := 87) [(1, .int (x1 + (1 : Int32))), (0, .ref x0)] [] rfl (fun _ => rfl) rfl ?_
          refine dw_s (pc' := 42) [] rfl (fun _ => rfl) ?_
          exact dw_j rfl (fun lv1 hv => ih (x1 + (1 : Int32)) (dc_wi q1.2 x0 37 (1 : Int32)) lv1 (hv.1 _ rfl) (hv.2.1 _ rfl))
        · refine dw_g rfl ?_
          refine dg_s (pc' := 68) [.ref x0, .ref x0] rfl (fun _ => rfl) rfl ?_
          refine dg_s (pc' := 69) [.int x1, .ref x0, .ref x0] rfl (fun _ => rfl) rfl ?_
          refine dg_s (pc' := 70) [.int (1 : Int32), .int x1, .ref x0, .ref x0] rfl (fun _ => rfl) rfl ?_
          refine dw_b (fun t => Φ (Option.bind t (dc_bk (d_X10_layRight_l42s x0)))) (pc' := 73) (fun q2 => [.int q2.1, .ref x0]) (fun q2 => q2.2) rfl (fun _ => rfl) (fun q2 => ?_)
          refine dw_g rfl ?_
          refine dw_if (fun t => Φ (Option.bind t (dc_bk (d_X10_layRight_l42s x0)))) ((Int32.toInt q2.1) = 0) [.ref x0] 80 76 rfl (fun _ => rfl) (fun c3 => ?_) (fun c3 => ?_)
          · refine dw_g rfl ?_
            refine dg_s (pc' := 81) [.int (0 : Int32), .ref x0] rfl (fun _ => rfl) rfl ?_
            refine dg_m (pc' := 84) (dc_wi q2.2 x0 37 (0 : Int32)) [] rfl (fun _ => rfl) rfl ?_
            refine dg_L (pc' := 87) [(1, .int (x1 + (1 : Int32))), (0, .ref x0)] [] rfl (fun _ => rfl) rfl ?_
            refine dw_s (pc' := 42) [] rfl (fun _ => rfl) ?_
            exact dw_j rfl (fun lv1 hv => ih (x1 + (1 : Int32)) (dc_wi q2.2 x0 37 (0 : Int32)) lv1 (hv.1 _ rfl) (hv.2.1 _ rfl))
          · refine dw_g rfl ?_
            refine dg_s (pc' := 77) [.int (1 : Int32), .ref x0] rfl (fun _ => rfl) rfl ?_
            refine dg_s (pc' := 81) [.int (1 : Int32), .ref x0] rfl (fun _ => rfl) rfl ?_
            refine dg_m (pc' := 84) (dc_wi q2.2 x0 37 (1 : Int32)) [] rfl (fun _ => rfl) rfl ?_
            refine dg_L (pc' := 87) [(1, .int (x1 + (1 : Int32))), (0, .ref x0)] [] rfl (fun _ => rfl) rfl ?_
            refine dw_s (pc' := 42) [] rfl (fun _ => rfl) ?_
            exact dw_j rfl (fun lv1 hv => ih (x1 + (1 : Int32)) (dc_wi q2.2 x0 37 (1 : Int32)) lv1 (hv.1 _ rfl) (hv.2.1 _ rfl))
noncomputable def d_X10_layRight_l19b (x0 : Nat) (x1 : Int32) (m : dc_M) : Option ((Int32 × dc_M) ⊕ (Int32 × dc_M)) :=
  (if (Int32.toInt (m.1 x0 32)) ≤ (Int32.toInt x1) then ((d_X10_layRight_l42 x0 (0 : Int32) m).map (fun z => Sum.inr (z))) else some (Sum.inl ((x1 + (1 : Int32)), (dc_wi m (x0 + 19) (Int32.toNatClampNeg x1) (0 : Int32)))))
noncomputable def d_X10_layRight_l19s (x0 : Nat) : (Int32 × dc_M) → Option ((Int32 × dc_M) ⊕ (Int32 × dc_M)) := fun s => d_X10_layRight_l19b x0 s.1 s.2
noncomputable def d_X10_layRight_l19 (x0 : Nat) (x1 : Int32) (m : dc_M) : Option (Int32 × dc_M) := dc_lp (d_X10_layRight_l19s x0) (x1, m)
set_option maxHeartbeats 8000000 in
theorem k_X10_layRight_l19 {u : Nat} {Φ : (Option (Int32 × dc_M)) → Option Value → dc_M → Prop} (x0 : Nat) (kR : ∀ (v : Int32) (m : dc_M), Φ (some ((v, m))) (some (.int v)) m) : ∀ (N : Nat), ∀ (x1 : Int32) (m : dc_M) (lv : ab_L), ab_lk lv 0 = some (.ref x0) → ab_lk lv 1 = some (.int x1) → dc_pv u N ab_M_X10_layRight 19 lv [] m (Φ (d_X10_layRight_l19 x0 x1 m)) := by
  intro N
  induction N with
  | zero => intros; exact dc_pv_zero
  | succ N ih =>
    intro x1 m lv f0 f1
    refine dc_ok (C := C_X10_layRight) (S := S_X10_layRight) CO_X10_layRight 400 19 [(0, .ref x0), (1, .int x1)] lv [] m (dc_sub_cons f0 (dc_sub_cons f1 (dc_sub_nil))) ?_
    unfold d_X10_layRight_l19
    rw [dc_lp_eq]
    show (fun t x => dc_lf u N ab_M_X10_layRight (Φ (Option.bind t (dc_bk (d_X10_layRight_l19s x0)))) x) (d_X10_layRight_l19b x0 x1 m) _
    dsimp only
    unfold d_X10_layRight_l19b
    refine dg_s (pc' := 20) [.int x1] rfl (fun _ => rfl) rfl ?_
    refine dg_s (pc' := 21) [.ref x0, .int x1] rfl (fun _ => rfl) rfl ?_
    refine dg_s (pc' := 24) [.int (m.1 x0 32), .int x1] rfl (fun _ => rfl) rfl ?_
    refine dw_if (fun t => Φ (Option.bind t (dc_bk (d_X10_layRight_l19s x0)))) ((Int32.toInt (m.1 x0 32)) ≤ (Int32.toInt x1)) [] 40 27 rfl (fun _ => rfl) (fun c0 => ?_) (fun c0 => ?_)
    · refine dw_g rfl ?_
      refine dg_s (pc' := 41) [.int (0 : Int32)] rfl (fun _ => rfl) rfl ?_
      refine dw_L (pc' := 42) [(1, .int (0 : Int32)), (0, .ref x0)] [] rfl (fun _ => rfl) ?_
      exact dw_j rfl (fun lv1 hv => k_X10_layRight_l42 (Φ := (fun t => Φ (Option.bind (t.map (fun z => Sum.inr (z))) (dc_bk (d_X10_layRight_l19s x0))))) x0 (fun _a _b => kR _a _b) N  (0 : Int32) m lv1 (hv.1 _ rfl) (hv.2.1 _ rfl))
    · refine dw_g rfl ?_
      refine dg_s (pc' := 28) [.ref x0] rfl (fun _ => rfl) rfl ?_
      refine dg_s (pc' := 31) [.ref (x0 + 19)] rfl (fun _ => rfl) rfl ?_
      refine dg_s (pc' := 32) [.int x1, .ref (x0 + 19)] rfl (fun _ => rfl) rfl ?_
      refine dg_s (pc' := 33) [.int (0 : Int32), .int x1, .ref (x0 + 19)] rfl (fun _ => rfl) rfl ?_
      refine dg_m (pc' := 34) (dc_wi m (x0 + 19) (Int32.toNatClampNeg x1) (0 : Int32)) [] rfl (fun _ => rfl) rfl ?_
      refine dg_L (pc' := 37) [(1, .int (x1 + (1 : Int32))), (0, .ref x0)] [] rfl (fun _ => rfl) rfl ?_
      refine dw_s (pc' := 19) [] rfl (fun _ => rfl) ?_
      exact dw_j rfl (fun lv1 hv => ih (x1 + (1 : Int32)) (dc_wi m (x0 + 19) (Int32.toNatClampNeg x1) (0 : Int32)) lv1 (hv.1 _ rfl) (hv.2.1 _ rfl))
noncomputable def d_X10_layRight (x0 : Nat) (m : dc_M) : Option (Int32 × dc_M) :=
  ((d_X10_layStates x0 m).bind (fun q1 => (if ¬ (Int32.toInt q1.1) = 1 then (d_X10_layRight_l19 x0 (0 : Int32) (dc_wi q1.2 x0 37 (0 : Int32))) else (d_X10_layRight_l19 x0 (0 : Int32) (dc_wi q1.2 x0 37 (1 : Int32))))))
set_option maxHeartbeats 8000000 in
theorem k_X10_layRight {u : Nat} {N : Nat} {Φ : (Option (Int32 × dc_M)) → Option Value → dc_M → Prop} (x0 : Nat) (m : dc_M) (kR : ∀ (v : Int32) (m : dc_M), Φ (some ((v, m))) (some (.int v)) m)  {lv : ab_L} (f0 : ab_lk lv 0 = some (.ref x0)) : dc_pv u N ab_M_X10_layRight 0 lv [] m (Φ (d_X10_layRight x0 m)) := by
  refine dc_pv.mono (dc_ok (C := C_X10_layRight) (S := S_X10_layRight) CO_X10_layRight 400 0 [(0, .ref x0)] lv [] m (dc_sub_cons f0 (dc_sub_nil)) ?_) (Nat.le_succ N)
  unfold d_X10_layRight
  refine dg_s (pc' := 1) [.ref x0] rfl (fun _ => rfl) rfl ?_
  refine dg_s (pc' := 2) [.ref x0, .ref x0] rfl (fun _ => rfl) rfl ?_
  refine dw_b (fun t => Φ t) (pc' := 5) (fun q1 => [.int q1.1, .ref x0]) (fun q1 => q1.2) rfl (fun _ => rfl) (fun q1 => ?_)
  refine dw_g rfl ?_
  refine dg_s (pc' := 6) [.int (1 : Int32), .int q1.1, .ref x0] rfl (fun _ => rfl) rfl ?_
  refine dw_if (fun t => Φ t) (¬ (Int32.toInt q1.1) = 1) [.ref x0] 13 9 rfl (fun _ => rfl) (fun c0 => ?_) (fun c0 => ?_)
  · refine dw_g rfl ?_
    refine dg_s (pc' := 14) [.int (0 : Int32), .ref x0] rfl (fun _ => rfl) rfl ?_
    refine dg_m (pc' := 17) (dc_wi q1.2 x0 37 (0 : Int32)) [] rfl (fun _ => rfl) rfl ?_
    refine dg_s (pc' := 18) [.int (0 : Int32)] rfl (fun _ => rfl) rfl ?_
    refine dw_L (pc' := 19) [(1, .int (0 : Int32)), (0, .ref x0)] [] rfl (fun _ => rfl) ?_
    exact dw_j rfl (fun lv1 hv => k_X10_layRight_l19 (Φ := (fun t => Φ t)) x0 (fun _a _b => kR _a _b) N  (0 : Int32) (dc_wi q1.2 x0 37 (0 : Int32)) lv1 (hv.1 _ rfl) (hv.2.1 _ rfl))
  · refine dw_g rfl ?_
    refine dg_s (pc' := 10) [.int (1 : Int32), .ref x0] rfl (fun _ => rfl) rfl ?_
    refine dg_s (pc' := 14) [.int (1 : Int32), .ref x0] rfl (fun _ => rfl) rfl ?_
    refine dg_m (pc' := 17) (dc_wi q1.2 x0 37 (1 : Int32)) [] rfl (fun _ => rfl) rfl ?_
    refine dg_s (pc' := 18) [.int (0 : Int32)] rfl (fun _ => rfl) rfl ?_
    refine dw_L (pc' := 19) [(1, .int (0 : Int32)), (0, .ref x0)] [] rfl (fun _ => rfl) ?_
    exact dw_j rfl (fun lv1 hv => k_X10_layRight_l19 (Φ := (fun t => Φ t)) x0 (fun _a _b => kR _a _b) N  (0 : Int32) (dc_wi q1.2 x0 37 (1 : Int32)) lv1 (hv.1 _ rfl) (hv.2.1 _ rfl))
noncomputable def H_X10_layRight : dc_H := fun As m k => match As with
  | [.ref x0] => (d_X10_layRight x0 m).bind (fun q => k (some (.int q.1)) q.2)
  | _ => dc_kz
theorem H_X10_layRight_ok {u : Nat} : dc_cok u 175 H_X10_layRight := fun M' hG N As m k P hz hP => by
  obtain rfl : ab_M_X10_layRight = M' := Option.some.inj hG
  unfold H_X10_layRight at hP
  split at hP
  · rename_i x0
    exact dc_pv.imp (k_X10_layRight (Φ := fun (t : Option (Int32 × dc_M)) r m' => P (t.bind (fun q => k (some (.int q.1)) q.2)) → P (k r m')) x0 m (fun _ _ h => h) rfl) (fun r m' h => h hP)
  · exact absurd hP hz
noncomputable def C_X10_right : List (Nat × dc_H) := [(175, H_X10_layRight)]
theorem CO_X10_right {u : Nat} : dc_CO u C_X10_right := dc_CO_cons H_X10_layRight_ok (dc_CO_nil)
def S_X10_right : List (Nat × List Nat) := []
noncomputable def d_X10_right (x0 : Nat) (m : dc_M) : Option (Int32 × dc_M) :=
  ((d_X10_layRight x0 m).bind (fun q1 => (if (Int32.toInt q1.1) = 0 then some (((0 : Int32), q1.2)) else some (((1 : Int32), q1.2)))))
set_option maxHeartbeats 8000000 in
theorem k_X10_right {u : Nat} {N : Nat} {Φ : (Option (Int32 × dc_M)) → Option Value → dc_M → Prop} (x0 : Nat) (m : dc_M) (kR : ∀ (v : Int32) (m : dc_M), Φ (some ((v, m))) (some (.int v)) m)  {lv : ab_L} (f0 : ab_lk lv 0 = some (.ref x0)) : dc_pv u N ab_M_X10_right 0 lv [] m (Φ (d_X10_right x0 m)) := by
  refine dc_pv.mono (dc_ok (C := C_X10_right) (S := S_X10_right) CO_X10_right 400 0 [(0, .ref x0)] lv [] m (dc_sub_cons f0 (dc_sub_nil)) ?_) (Nat.le_succ N)
  unfold d_X10_right
  refine dg_s (pc' := 1) [.ref x0] rfl (fun _ => rfl) rfl ?_
  refine dw_b (fun t => Φ t) (pc' := 4) (fun q1 => [.int q1.1]) (fun q1 => q1.2) rfl (fun _ => rfl) (fun q1 => ?_)
  refine dw_g rfl ?_
  refine dw_if (fun t => Φ t) ((Int32.toInt q1.1) = 0) [] 11 7 rfl (fun _ => rfl) (fun c0 => ?_) (fun c0 => ?_)
  · refine dw_g rfl ?_
    refine dg_s (pc' := 12) [.int (0 : Int32)] rfl (fun _ => rfl) rfl ?_
    exact dw_r (some (.inl (some (.int (0 : Int32)), q1.2))) rfl (fun _ => rfl) (kR _ _)
  · refine dw_g rfl ?_
    refine dg_s (pc' := 8) [.int (1 : Int32)] rfl (fun _ => rfl) rfl ?_
    refine dg_s (pc' := 12) [.int (1 : Int32)] rfl (fun _ => rfl) rfl ?_
    exact dw_r (some (.inl (some (.int (1 : Int32)), q1.2))) rfl (fun _ => rfl) (kR _ _)
noncomputable def H_X10_right : dc_H := fun As m k => match As with
  | [.ref x0] => (d_X10_right x0 m).bind (fun q => k (some (.int q.1)) q.2)
  | _ => dc_kz
theorem H_X10_right_ok {u : Nat} : dc_cok u 177 H_X10_right := fun M' hG N As m k P hz hP => by
  obtain rfl : ab_M_X10_right = M' := Option.some.inj hG
  unfold H_X10_right at hP
  split at hP
  · rename_i x0
    exact dc_pv.imp (k_X10_right (Φ := fun (t : Option (Int32 × dc_M)) r m' => P (t.bind (fun q => k (some (.int q.1)) q.2)) → P (k r m')) x0 m (fun _ _ h => h) rfl) (fun r m' h => h hP)
  · exact absurd hP hz
def C_X10_excited : List (Nat × dc_H) := []
theorem CO_X10_excited {u : Nat} : dc_CO u C_X10_excited := dc_CO_nil
def S_X10_excited : List (Nat × List Nat) := [(4, [0, 1, 2, 3])]
noncomputable def d_X10_excited_l4b (x0 : Nat) (x1 : Int32) (x2 : Int32) (x3 : Int32) (m : dc_M) : Option ((Int32 × Int32) ⊕ Int32) :=
  (if (Int32.toInt (m.1 x0 3)) ≤ (Int32.toInt x3) then some (Sum.inr (x2)) else (if ¬ (Int32.toInt (m.1 (x0 + 18) (Int32.toNatClampNeg (((16 : Int32) * x1) + x3)))) = (-4) then some (Sum.inl ((x2 ||| ((1 : Int32) <<< ((m.1 (x0 + 3) (Int32.toNatClampNeg x3)) &&& 31))), (x3 + (1 : Int32)))) else some (Sum.inl ((x2 ||| (0 : Int32)), (x3 + (1 : Int32))))))
noncomputable def d_X10_excited_l4s (x0 : Nat) (x1 : Int32) (m : dc_M) : (Int32 × Int32) → Option ((Int32 × Int32) ⊕ Int32) := fun s => d_X10_excited_l4b x0 x1 s.1 s.2 m
noncomputable def d_X10_excited_l4 (x0 : Nat) (x1 : Int32) (x2 : Int32) (x3 : Int32) (m : dc_M) : Option Int32 := dc_lp (d_X10_excited_l4s x0 x1 m) (x2, x3)
set_option maxHeartbeats 8000000 in
theorem k_X10_excited_l4 {u : Nat} {Φ : (Option Int32) → Option Value → dc_M → Prop} (x0 : Nat) (x1 : Int32) (m : dc_M) (kR : ∀ (v : Int32), Φ (some (v)) (some (.int v)) m) : ∀ (N : Nat), ∀ (x2 : Int32) (x3 : Int32) (lv : ab_L), ab_lk lv 0 = some (.ref x0) → ab_lk lv 1 = some (.int x1) → ab_lk lv 2 = some (.int x2) → ab_lk lv 3 = some (.int x3) → dc_pv u N ab_M_X10_excited 4 lv [] m (Φ (d_X10_excited_l4 x0 x1 x2 x3 m)) := by
  intro N
  induction N with
  | zero => intros; exact dc_pv_zero
  | succ N ih =>
    intro x2 x3 lv f0 f1 f2 f3
    refine dc_ok (C := C_X10_excited) (S := S_X10_excited) CO_X10_excited 400 4 [(0, .ref x0), (1, .int x1), (2, .int x2), (3, .int x3)] lv [] m (dc_sub_cons f0 (dc_sub_cons f1 (dc_sub_cons f2 (dc_sub_cons f3 (dc_sub_nil))))) ?_
    unfold d_X10_excited_l4
    rw [dc_lp_eq]
    show (fun t x => dc_lf u N ab_M_X10_excited (Φ (Option.bind t (dc_bk (d_X10_excited_l4s x0 x1 m)))) x) (d_X10_excited_l4b x0 x1 x2 x3 m) _
    dsimp only
    unfold d_X10_excited_l4b
    refine dg_s (pc' := 5) [.int x3] rfl (fun _ => rfl) rfl ?_
    refine dg_s (pc' := 6) [.ref x0, .int x3] rfl (fun _ => rfl) rfl ?_
    refine dg_s (pc' := 9) [.int (m.1 x0 3), .int x3] rfl (fun _ => rfl) rfl ?_
    refine dw_if (fun t => Φ (Option.bind t (dc_bk (d_X10_excited_l4s x0 x1 m)))) ((Int32.toInt (m.1 x0 3)) ≤ (Int32.toInt x3)) [] 49 12 rfl (fun _ => rfl) (fun c0 => ?_) (fun c0 => ?_)
    · refine dw_g rfl ?_
      refine dg_s (pc' := 50) [.int x2] rfl (fun _ => rfl) rfl ?_
      exact dw_r (some (.inl (some (.int x2), m))) rfl (fun _ => rfl) (kR _)
    · refine dw_g rfl ?_
      refine dg_s (pc' := 13) [.int x2] rfl (fun _ => rfl) rfl ?_
      refine dg_s (pc' := 14) [.ref x0, .int x2] rfl (fun _ => rfl) rfl ?_
      refine dg_s (pc' := 17) [.ref (x0 + 18), .int x2] rfl (fun _ => rfl) rfl ?_
      refine dg_s (pc' := 19) [.int (16 : Int32), .ref (x0 + 18), .int x2] rfl (fun _ => rfl) rfl ?_
      refine dg_s (pc' := 20) [.int x1, .int (16 : Int32), .ref (x0 + 18), .int x2] rfl (fun _ => rfl) rfl ?_
      refine dg_s (pc' := 21) [.int ((16 : Int32) * x1), .ref (x0 + 18), .int x2] rfl (fun _ => rfl) rfl ?_
      refine dg_s (pc' := 22) [.int x3, .int ((16 : Int32) * x1), .ref (x0 + 18), .int x2] rfl (fun _ => rfl) rfl ?_
      refine dg_s (pc' := 23) [.int (((16 : Int32) * x1) + x3), .ref (x0 + 18), .int x2] rfl (fun _ => rfl) rfl ?_
      refine dg_s (pc' := 24) [.int (m.1 (x0 + 18) (Int32.toNatClampNeg (((16 : Int32) * x1) + x3))), .int x2] rfl (fun _ => rfl) rfl ?_
      refine dg_s (pc' := 26) [.int (-4 : Int32), .int (m.1 (x0 + 18) (Int32.toNatClampNeg (((16 : Int32) * x1) + x3))), .int x2] rfl (fun _ => rfl) rfl ?_
      refine dw_if (fun t => Φ (Option.bind t (dc_bk (d_X10_excited_l4s x0 x1 m)))) (¬ (Int32.toInt (m.1 (x0 + 18) (Int32.toNatClampNeg (((16 : Int32) * x1) + x3)))) = (-4)) [.int x2] 33 29 rfl (fun _ => rfl) (fun c1 => ?_) (fun c1 => ?_)
      · refine dw_g rfl ?_
        refine dg_s (pc' := 34) [.int (1 : Int32), .int x2] rfl (fun _ => rfl) rfl ?_
        refine dg_s (pc' := 35) [.ref x0, .int (1 : Int32), .int x2] rfl (fun _ => rfl) rfl ?_
        refine dg_s (pc' := 38) [.ref (x0 + 3), .int (1 : Int32), .int x2] rfl (fun _ => rfl) rfl ?_
        refine dg_s (pc' := 39) [.int x3, .ref (x0 + 3), .int (1 : Int32), .int x2] rfl (fun _ => rfl) rfl ?_
        refine dg_s (pc' := 40) [.int (m.1 (x0 + 3) (Int32.toNatClampNeg x3)), .int (1 : Int32), .int x2] rfl (fun _ => rfl) rfl ?_
        refine dg_s (pc' := 41) [.int ((1 : Int32) <<< ((m.1 (x0 + 3) (Int32.toNatClampNeg x3)) &&& 31)), .int x2] rfl (fun _ => rfl) rfl ?_
        refine dg_s (pc' := 42) [.int (x2 ||| ((1 : Int32) <<< ((m.1 (x0 + 3) (Int32.toNatClampNeg x3)) &&& 31)))] rfl (fun _ => rfl) rfl ?_
        refine dg_L (pc' := 43) [(2, .int (x2 ||| ((1 : Int32) <<< ((m.1 (x0 + 3) (Int32.toNatClampNeg x3)) &&& 31)))), (0, .ref x0), (1, .int x1), (3, .int x3)] [] rfl (fun _ => rfl) rfl ?_
        refine dg_L (pc' := 46) [(3, .int (x3 + (1 : Int32))), (2, .int (x2 ||| ((1 : Int32) <<< ((m.1 (x0 + 3) (Int32.toNatClampNeg x3)) &&& 31)))), (0, .ref x0), (1, .int x1)] [] rfl (fun _ => rfl) rfl ?_
        refine dw_s (pc' := 4) [] rfl (fun _ => rfl) ?_
        exact dw_j rfl (fun lv1 hv => ih (x2 ||| ((1 : Int32) <<< ((m.1 (x0 + 3) (Int32.toNatClampNeg x3)) &&& 31))) (x3 + (1 : Int32)) lv1 (hv.1 _ rfl) (hv.2.1 _ rfl) (hv.2.2.1 _ rfl) (hv.2.2.2.1 _ rfl))
      · refine dw_g rfl ?_
        refine dg_s (pc' := 30) [.int (0 : Int32), .int x2] rfl (fun _ => rfl) rfl ?_
        refine dg_s (pc' := 41) [.int (0 : Int32), .int x2] rfl (fun _ => rfl) rfl ?_
        refine dg_s (pc' := 42) [.int (x2 ||| (0 : Int32))] rfl (fun _ => rfl) rfl ?_
        refine dg_L (pc' := 43) [(2, .int (x2 ||| (0 : Int32))), (0, .ref x0), (1, .int x1), (3, .int x3)] [] rfl (fun _ => rfl) rfl ?_
        refine dg_L (pc' := 46) [(3, .int (x3 + (1 : Int32))), (2, .int (x2 ||| (0 : Int32))), (0, .ref x0), (1, .int x1)] [] rfl (fun _ => rfl) rfl ?_
        refine dw_s (pc' := 4) [] rfl (fun _ => rfl) ?_
        exact dw_j rfl (fun lv1 hv => ih (x2 ||| (0 : Int32)) (x3 + (1 : Int32)) lv1 (hv.1 _ rfl) (hv.2.1 _ rfl) (hv.2.2.1 _ rfl) (hv.2.2.2.1 _ rfl))
noncomputable def d_X10_excited (x0 : Nat) (x1 : Int32) (m : dc_M) : Option Int32 :=
  (d_X10_excited_l4 x0 x1 (0 : Int32) (0 : Int32) m)
set_option maxHeartbeats 8000000 in
theorem k_X10_excited {u : Nat} {N : Nat} {Φ : (Option Int32) → Option Value → dc_M → Prop} (x0 : Nat) (x1 : Int32) (m : dc_M) (kR : ∀ (v : Int32), Φ (some (v)) (some (.int v)) m)  {lv : ab_L} (f0 : ab_lk lv 0 = some (.ref x0)) (f1 : ab_lk lv 1 = some (.int x1)) : dc_pv u N ab_M_X10_excited 0 lv [] m (Φ (d_X10_excited x0 x1 m)) := by
  refine dc_pv.mono (dc_ok (C := C_X10_excited) (S := S_X10_excited) CO_X10_excited 400 0 [(0, .ref x0), (1, .int x1)] lv [] m (dc_sub_cons f0 (dc_sub_cons f1 (dc_sub_nil))) ?_) (Nat.le_succ N)
  unfold d_X10_excited
  refine dg_s (pc' := 1) [.int (0 : Int32)] rfl (fun _ => rfl) rfl ?_
  refine dg_L (pc' := 2) [(2, .int (0 : Int32)), (0, .ref x0), (1, .int x1)] [] rfl (fun _ => rfl) rfl ?_
  refine dg_s (pc' := 3) [.int (0 : Int32)] rfl (fun _ => rfl) rfl ?_
  refine dw_L (pc' := 4) [(3, .int (0 : Int32)), (2, .int (0 : Int32)), (0, .ref x0), (1, .int x1)] [] rfl (fun _ => rfl) ?_
  exact dw_j rfl (fun lv1 hv => k_X10_excited_l4 (Φ := (fun t => Φ t)) x0 x1 m (fun _a  => kR _a) N  (0 : Int32) (0 : Int32) lv1 (hv.1 _ rfl) (hv.2.1 _ rfl) (hv.2.2.1 _ rfl) (hv.2.2.2.1 _ rfl))
noncomputable def H_X10_excited : dc_H := fun As m k => match As with
  | [.ref x0, .int x1] => (d_X10_excited x0 x1 m).bind (fun q => k (some (.int q)) m)
  | _ => dc_kz
theorem H_X10_excited_ok {u : Nat} : dc_cok u 179 H_X10_excited := fun M' hG N As m k P hz hP => by
  obtain rfl : ab_M_X10_excited = M' := Option.some.inj hG
  unfold H_X10_excited at hP
  split at hP
  · rename_i x0 x1
    exact dc_pv.imp (k_X10_excited (Φ := fun (t : Option Int32) r m' => P (t.bind (fun q => k (some (.int q)) m)) → P (k r m')) x0 x1 m (fun _  h => h) rfl rfl) (fun r m' h => h hP)
  · exact absurd hP hz
noncomputable def C_X10_aims : List (Nat × dc_H) := [(179, H_X10_excited)]
theorem CO_X10_aims {u : Nat} : dc_CO u C_X10_aims := dc_CO_cons H_X10_excited_ok (dc_CO_nil)
def S_X10_aims : List (Nat × List Nat) := []
noncomputable def d_X10_aims (x0 : Nat) (x1 : Int32) (m : dc_M) : Option Int32 :=
  ((d_X10_excited x0 x1 m).bind (fun q1 => some (((m.1 (x0 + 19) (Int32.toNatClampNeg x1)) ^^^ q1))))
set_option maxHeartbeats 8000000 in
theorem k_X10_aims {u : Nat} {N : Nat} {Φ : (Option Int32) → Option Value → dc_M → Prop} (x0 : Nat) (x1 : Int32) (m : dc_M) (kR : ∀ (v : Int32), Φ (some (v)) (some (.int v)) m)  {lv : ab_L} (f0 : ab_lk lv 0 = some (.ref x0)) (f1 : ab_lk lv 1 = some (.int x1)) : dc_pv u N ab_M_X10_aims 0 lv [] m (Φ (d_X10_aims x0 x1 m)) := by
  refine dc_pv.mono (dc_ok (C := C_X10_aims) (S := S_X10_aims) CO_X10_aims 400 0 [(0, .ref x0), (1, .int x1)] lv [] m (dc_sub_cons f0 (dc_sub_cons f1 (dc_sub_nil))) ?_) (Nat.le_succ N)
  unfold d_X10_aims
  refine dg_s (pc' := 1) [.ref x0] rfl (fun _ => rfl) rfl ?_
  refine dg_s (pc' := 4) [.ref (x0 + 19)] rfl (fun _ => rfl) rfl ?_
  refine dg_s (pc' := 5) [.int x1, .ref (x0 + 19)] rfl (fun _ => rfl) rfl ?_
  refine dg_s (pc' := 6) [.int (m.1 (x0 + 19) (Int32.toNatClampNeg x1))] rfl (fun _ => rfl) rfl ?_
  refine dg_s (pc' := 7) [.ref x0, .int (m.1 (x0 + 19) (Int32.toNatClampNeg x1))] rfl (fun _ => rfl) rfl ?_
  refine dg_s (pc' := 8) [.int x1, .ref x0, .int (m.1 (x0 + 19) (Int32.toNatClampNeg x1))] rfl (fun _ => rfl) rfl ?_
  refine dw_b (fun t => Φ t) (pc' := 11) (fun q1 => [.int q1, .int (m.1 (x0 + 19) (Int32.toNatClampNeg x1))]) (fun q1 => m) rfl (fun _ => rfl) (fun q1 => ?_)
  refine dw_g rfl ?_
  refine dg_s (pc' := 12) [.int ((m.1 (x0 + 19) (Int32.toNatClampNeg x1)) ^^^ q1)] rfl (fun _ => rfl) rfl ?_
  exact dw_r (some (.inl (some (.int ((m.1 (x0 + 19) (Int32.toNatClampNeg x1)) ^^^ q1)), m))) rfl (fun _ => rfl) (kR _)
noncomputable def H_X10_aims : dc_H := fun As m k => match As with
  | [.ref x0, .int x1] => (d_X10_aims x0 x1 m).bind (fun q => k (some (.int q)) m)
  | _ => dc_kz
theorem H_X10_aims_ok {u : Nat} : dc_cok u 180 H_X10_aims := fun M' hG N As m k P hz hP => by
  obtain rfl : ab_M_X10_aims = M' := Option.some.inj hG
  unfold H_X10_aims at hP
  split at hP
  · rename_i x0 x1
    exact dc_pv.imp (k_X10_aims (Φ := fun (t : Option Int32) r m' => P (t.bind (fun q => k (some (.int q)) m)) → P (k r m')) x0 x1 m (fun _  h => h) rfl rfl) (fun r m' h => h hP)
  · exact absurd hP hz
def C_X10_readyIn : List (Nat × dc_H) := []
theorem CO_X10_readyIn {u : Nat} : dc_CO u C_X10_readyIn := dc_CO_nil
def S_X10_readyIn : List (Nat × List Nat) := [(4, [0, 1, 2, 3])]
noncomputable def d_X10_readyIn_l4b (x0 : Nat) (x1 : Int32) (x2 : Int32) (x3 : Int32) (m : dc_M) : Option ((Int32 × Int32) ⊕ Int32) :=
  (if (Int32.toInt (m.1 x0 3)) ≤ (Int32.toInt x3) then some (Sum.inr (x2)) else (if ¬ (Int32.toInt (m.1 (x0 + 18) (Int32.toNatClampNeg (((16 : Int32) * x1) + x3)))) = (-4) then some (Sum.inl ((x2 ||| ((1 : Int32) <<< (x3 &&& 31))), (x3 + (1 : Int32)))) else some (Sum.inl ((x2 ||| (0 : Int32)), (x3 + (1 : Int32))))))
noncomputable def d_X10_readyIn_l4s (x0 : Nat) (x1 : Int32) (m : dc_M) : (Int32 × Int32) → Option ((Int32 × Int32) ⊕ Int32) := fun s => d_X10_readyIn_l4b x0 x1 s.1 s.2 m
noncomputable def d_X10_readyIn_l4 (x0 : Nat) (x1 : Int32) (x2 : Int32) (x3 : Int32) (m : dc_M) : Option Int32 := dc_lp (d_X10_readyIn_l4s x0 x1 m) (x2, x3)
set_option maxHeartbeats 8000000 in
theorem k_X10_readyIn_l4 {u : Nat} {Φ : (Option Int32) → Option Value → dc_M → Prop} (x0 : Nat) (x1 : Int32) (m : dc_M) (kR : ∀ (v : Int32), Φ (some (v)) (some (.int v)) m) : ∀ (N : Nat), ∀ (x2 : Int32) (x3 : Int32) (lv : ab_L), ab_lk lv 0 = some (.ref x0) → ab_lk lv 1 = some (.int x1) → ab_lk lv 2 = some (.int x2) → ab_lk lv 3 = some (.int x3) → dc_pv u N ab_M_X10_readyIn 4 lv [] m (Φ (d_X10_readyIn_l4 x0 x1 x2 x3 m)) := by
  intro N
  induction N with
  | zero => intros; exact dc_pv_zero
  | succ N ih =>
    intro x2 x3 lv f0 f1 f2 f3
    refine dc_ok (C := C_X10_readyIn) (S := S_X10_readyIn) CO_X10_readyIn 400 4 [(0, .ref x0), (1, .int x1), (2, .int x2), (3, .int x3)] lv [] m (dc_sub_cons f0 (dc_sub_cons f1 (dc_sub_cons f2 (dc_sub_cons f3 (dc_sub_nil))))) ?_
    unfold d_X10_readyIn_l4
    rw [dc_lp_eq]
    show (fun t x => dc_lf u N ab_M_X10_readyIn (Φ (Option.bind t (dc_bk (d_X10_readyIn_l4s x0 x1 m)))) x) (d_X10_readyIn_l4b x0 x1 x2 x3 m) _
    dsimp only
    unfold d_X10_readyIn_l4b
    refine dg_s (pc' := 5) [.int x3] rfl (fun _ => rfl) rfl ?_
    refine dg_s (pc' := 6) [.ref x0, .int x3] rfl (fun _ => rfl) rfl ?_
    refine dg_s (pc' := 9) [.int (m.1 x0 3), .int x3] rfl (fun _ => rfl) rfl ?_
    refine dw_if (fun t => Φ (Option.bind t (dc_bk (d_X10_readyIn_l4s x0 x1 m)))) ((Int32.toInt (m.1 x0 3)) ≤ (Int32.toInt x3)) [] 44 12 rfl (fun _ => rfl) (fun c0 => ?_) (fun c0 => ?_)
    · refine dw_g rfl ?_
      refine dg_s (pc' := 45) [.int x2] rfl (fun _ => rfl) rfl ?_
      exact dw_r (some (.inl (some (.int x2), m))) rfl (fun _ => rfl) (kR _)
    · refine dw_g rfl ?_
      refine dg_s (pc' := 13) [.int x2] rfl (fun _ => rfl) rfl ?_
      refine dg_s (pc' := 14) [.ref x0, .int x2] rfl (fun _ => rfl) rfl ?_
      refine dg_s (pc' := 17) [.ref (x0 + 18), .int x2] rfl (fun _ => rfl) rfl ?_
      refine dg_s (pc' := 19) [.int (16 : Int32), .ref (x0 + 18), .int x2] rfl (fun _ => rfl) rfl ?_
      refine dg_s (pc' := 20) [.int x1, .int (16 : Int32), .ref (x0 + 18), .int x2] rfl (fun _ => rfl) rfl ?_
      refine dg_s (pc' := 21) [.int ((16 : Int32) * x1), .ref (x0 + 18), .int x2] rfl (fun _ => rfl) rfl ?_
      refine dg_s (pc' := 22) [.int x3, .int ((16 : Int32) * x1), .ref (x0 + 18), .int x2] rfl (fun _ => rfl) rfl ?_
      refine dg_s (pc' := 23) [.int (((16 : Int32) * x1) + x3), .ref (x0 + 18), .int x2] rfl (fun _ => rfl) rfl ?_
      refine dg_s (pc' := 24) [.int (m.1 (x0 + 18) (Int32.toNatClampNeg (((16 : Int32) * x1) + x3))), .int x2] rfl (fun _ => rfl) rfl ?_
      refine dg_s (pc' := 26) [.int (-4 : Int32), .int (m.1 (x0 + 18) (Int32.toNatClampNeg (((16 : Int32) * x1) + x3))), .int x2] rfl (fun _ => rfl) rfl ?_
      refine dw_if (fun t => Φ (Option.bind t (dc_bk (d_X10_readyIn_l4s x0 x1 m)))) (¬ (Int32.toInt (m.1 (x0 + 18) (Int32.toNatClampNeg (((16 : Int32) * x1) + x3)))) = (-4)) [.int x2] 33 29 rfl (fun _ => rfl) (fun c1 => ?_) (fun c1 => ?_)
      · refine dw_g rfl ?_
        refine dg_s (pc' := 34) [.int (1 : Int32), .int x2] rfl (fun _ => rfl) rfl ?_
        refine dg_s (pc' := 35) [.int x3, .int (1 : Int32), .int x2] rfl (fun _ => rfl) rfl ?_
        refine dg_s (pc' := 36) [.int ((1 : Int32) <<< (x3 &&& 31)), .int x2] rfl (fun _ => rfl) rfl ?_
        refine dg_s (pc' := 37) [.int (x2 ||| ((1 : Int32) <<< (x3 &&& 31)))] rfl (fun _ => rfl) rfl ?_
        refine dg_L (pc' := 38) [(2, .int (x2 ||| ((1 : Int32) <<< (x3 &&& 31)))), (0, .ref x0), (1, .int x1), (3, .int x3)] [] rfl (fun _ => rfl) rfl ?_
        refine dg_L (pc' := 41) [(3, .int (x3 + (1 : Int32))), (2, .int (x2 ||| ((1 : Int32) <<< (x3 &&& 31)))), (0, .ref x0), (1, .int x1)] [] rfl (fun _ => rfl) rfl ?_
        refine dw_s (pc' := 4) [] rfl (fun _ => rfl) ?_
        exact dw_j rfl (fun lv1 hv => ih (x2 ||| ((1 : Int32) <<< (x3 &&& 31))) (x3 + (1 : Int32)) lv1 (hv.1 _ rfl) (hv.2.1 _ rfl) (hv.2.2.1 _ rfl) (hv.2.2.2.1 _ rfl))
      · refine dw_g rfl ?_
        refine dg_s (pc' := 30) [.int (0 : Int32), .int x2] rfl (fun _ => rfl) rfl ?_
        refine dg_s (pc' := 36) [.int (0 : Int32), .int x2] rfl (fun _ => rfl) rfl ?_
        refine dg_s (pc' := 37) [.int (x2 ||| (0 : Int32))] rfl (fun _ => rfl) rfl ?_
        refine dg_L (pc' := 38) [(2, .int (x2 ||| (0 : Int32))), (0, .ref x0), (1, .int x1), (3, .int x3)] [] rfl (fun _ => rfl) rfl ?_
        refine dg_L (pc' := 41) [(3, .int (x3 + (1 : Int32))), (2, .int (x2 ||| (0 : Int32))), (0, .ref x0), (1, .int x1)] [] rfl (fun _ => rfl) rfl ?_
        refine dw_s (pc' := 4) [] rfl (fun _ => rfl) ?_
        exact dw_j rfl (fun lv1 hv => ih (x2 ||| (0 : Int32)) (x3 + (1 : Int32)) lv1 (hv.1 _ rfl) (hv.2.1 _ rfl) (hv.2.2.1 _ rfl) (hv.2.2.2.1 _ rfl))
noncomputable def d_X10_readyIn (x0 : Nat) (x1 : Int32) (m : dc_M) : Option Int32 :=
  (d_X10_readyIn_l4 x0 x1 (0 : Int32) (0 : Int32) m)
set_option maxHeartbeats 8000000 in
theorem k_X10_readyIn {u : Nat} {N : Nat} {Φ : (Option Int32) → Option Value → dc_M → Prop} (x0 : Nat) (x1 : Int32) (m : dc_M) (kR : ∀ (v : Int32), Φ (some (v)) (some (.int v)) m)  {lv : ab_L} (f0 : ab_lk lv 0 = some (.ref x0)) (f1 : ab_lk lv 1 = some (.int x1)) : dc_pv u N ab_M_X10_readyIn 0 lv [] m (Φ (d_X10_readyIn x0 x1 m)) := by
  refine dc_pv.mono (dc_ok (C := C_X10_readyIn) (S := S_X10_readyIn) CO_X10_readyIn 400 0 [(0, .ref x0), (1, .int x1)] lv [] m (dc_sub_cons f0 (dc_sub_cons f1 (dc_sub_nil))) ?_) (Nat.le_succ N)
  unfold d_X10_readyIn
  refine dg_s (pc' := 1) [.int (0 : Int32)] rfl (fun _ => rfl) rfl ?_
  refine dg_L (pc' := 2) [(2, .int (0 : Int32)), (0, .ref x0), (1, .int x1)] [] rfl (fun _ => rfl) rfl ?_
  refine dg_s (pc' := 3) [.int (0 : Int32)] rfl (fun _ => rfl) rfl ?_
  refine dw_L (pc' := 4) [(3, .int (0 : Int32)), (2, .int (0 : Int32)), (0, .ref x0), (1, .int x1)] [] rfl (fun _ => rfl) ?_
  exact dw_j rfl (fun lv1 hv => k_X10_readyIn_l4 (Φ := (fun t => Φ t)) x0 x1 m (fun _a  => kR _a) N  (0 : Int32) (0 : Int32) lv1 (hv.1 _ rfl) (hv.2.1 _ rfl) (hv.2.2.1 _ rfl) (hv.2.2.2.1 _ rfl))
noncomputable def H_X10_readyIn : dc_H := fun As m k => match As with
  | [.ref x0, .int x1] => (d_X10_readyIn x0 x1 m).bind (fun q => k (some (.int q)) m)
  | _ => dc_kz
theorem H_X10_readyIn_ok {u : Nat} : dc_cok u 178 H_X10_readyIn := fun M' hG N As m k P hz hP => by
  obtain rfl : ab_M_X10_readyIn = M' := Option.some.inj hG
  unfold H_X10_readyIn at hP
  split at hP
  · rename_i x0 x1
    exact dc_pv.imp (k_X10_readyIn (Φ := fun (t : Option Int32) r m' => P (t.bind (fun q => k (some (.int q)) m)) → P (k r m')) x0 x1 m (fun _  h => h) rfl rfl) (fun r m' h => h hP)
  · exact absurd hP hz
noncomputable def C_X10_of : List (Nat × dc_H) := [(180, H_X10_aims), (179, H_X10_excited), (146, H_X10_in), (175, H_X10_layRight), (178, H_X10_readyIn)]
theorem CO_X10_of {u : Nat} : dc_CO u C_X10_of := dc_CO_cons H_X10_aims_ok (dc_CO_cons H_X10_excited_ok (dc_CO_cons H_X10_in_ok (dc_CO_cons H_X10_layRight_ok (dc_CO_cons H_X10_readyIn_ok (dc_CO_nil)))))
def S_X10_of : List (Nat × List Nat) := [(62, [0, 1, 2]), (86, [0, 1, 2])]
noncomputable def d_X10_of_b86 (x0 : Nat) (x1 : Int32) (x2 : Int32) (m : dc_M) : Option (Int32 × dc_M) :=
  (if ¬ (Int32.toInt x2) = 0 then (if ¬ (Int32.toInt x2) = 1 then (if ¬ (Int32.toInt x2) = 2 then (if ¬ (Int32.toInt x2) = 3 then (if ¬ (Int32.toInt x2) = 4 then some (((m.1 (x0 + 18) (Int32.toNatClampNeg ((((16 : Int32) * x1) + x2) - (10 : Int32)))), m)) else ((d_X10_aims x0 x1 m).bind (fun q1 => some ((q1, m))))) else ((d_X10_excited x0 x1 m).bind (fun q2 => some ((q2, m))))) else some (((m.1 (x0 + 19) (Int32.toNatClampNeg x1)), m))) else ((d_X10_readyIn x0 x1 m).bind (fun q3 => some ((q3, m))))) else some (((m.1 (x0 + 17) (Int32.toNatClampNeg x1)), m)))
set_option maxHeartbeats 8000000 in
theorem k_X10_of_b86 {u : Nat} {N : Nat} {Φ : (Option (Int32 × dc_M)) → Option Value → dc_M → Prop} (x0 : Nat) (x1 : Int32) (x2 : Int32) (m : dc_M) (kR : ∀ (v : Int32) (m : dc_M), Φ (some ((v, m))) (some (.int v)) m)  {lv : ab_L} (f0 : ab_lk lv 0 = some (.ref x0)) (f1 : ab_lk lv 1 = some (.int x1)) (f2 : ab_lk lv 2 = some (.int x2)) : dc_pv u N ab_M_X10_of 86 lv [] m (Φ (d_X10_of_b86 x0 x1 x2 m)) := by
  refine dc_pv.mono (dc_ok (C := C_X10_of) (S := S_X10_of) CO_X10_of 400 86 [(0, .ref x0), (1, .int x1), (2, .int x2)] lv [] m (dc_sub_cons f0 (dc_sub_cons f1 (dc_sub_cons f2 (dc_sub_nil)))) ?_) (Nat.le_succ N)
  unfold d_X10_of_b86
  refine dg_s (pc' := 87) [.int x2] rfl (fun _ => rfl) rfl ?_
  refine dw_if (fun t => Φ t) (¬ (Int32.toInt x2) = 0) [] 99 90 rfl (fun _ => rfl) (fun c0 => ?_) (fun c0 => ?_)
  · refine dw_g rfl ?_
    refine dg_s (pc' := 100) [.int x2] rfl (fun _ => rfl) rfl ?_
    refine dg_s (pc' := 101) [.int (1 : Int32), .int x2] rfl (fun _ => rfl) rfl ?_
    refine dw_if (fun t => Φ t) (¬ (Int32.toInt x2) = 1) [] 112 104 rfl (fun _ => rfl) (fun c1 => ?_) (fun c1 => ?_)
    · refine dw_g rfl ?_
      refine dg_s (pc' := 113) [.int x2] rfl (fun _ => rfl) rfl ?_
      refine dg_s (pc' := 114) [.int (2 : Int32), .int x2] rfl (fun _ => rfl) rfl ?_
      refine dw_if (fun t => Φ t) (¬ (Int32.toInt x2) = 2) [] 126 117 rfl (fun _ => rfl) (fun c2 => ?_) (fun c2 => ?_)
      · refine dw_g rfl ?_
        refine dg_s (pc' := 127) [.int x2] rfl (fun _ => rfl) rfl ?_
        refine dg_s (pc' := 128) [.int (3 : Int32), .int x2] rfl (fun _ => rfl) rfl ?_
        refine dw_if (fun t => Φ t) (¬ (Int32.toInt x2) = 3) [] 139 131 rfl (fun _ => rfl) (fun c3 => ?_) (fun c3 => ?_)
        · refine dw_g rfl ?_
          refine dg_s (pc' := 140) [.int x2] rfl (fun _ => rfl) rfl ?_
          refine dg_s (pc' := 141) [.int (4 : Int32), .int x2] rfl (fun _ => rfl) rfl ?_
          refine dw_if (fun t => Φ t) (¬ (Int32.toInt x2) = 4) [] 152 144 rfl (fun _ => rfl) (fun c4 => ?_) (fun c4 => ?_)
          · refine dw_g rfl ?_
            refine dg_s (pc' := 153) [.ref x0] rfl (fun _ => rfl) rfl ?_
            refine dg_s (pc' := 156) [.ref (x0 + 18)] rfl (fun _ => rfl) rfl ?_
            refine dg_s (pc' := 158) [.int (16 : Int32), .ref (x0 + 18)] rfl (fun _ => rfl) rfl ?_
            refine dg_s (pc' := 159) [.int x1, .int (16 : Int32), .ref (x0 + 18)] rfl (fun _ => rfl) rfl ?_
            refine dg_s (pc' := 160) [.int ((16 : Int32) * x1), .ref (x0 + 18)] rfl (fun _ => rfl) rfl ?_
            refine dg_s (pc' := 161) [.int x2, .int ((16 : Int32) * x1), .ref (x0 + 18)] rfl (fun _ => rfl) rfl ?_
            refine dg_s (pc' := 162) [.int (((16 : Int32) * x1) + x2), .ref (x0 + 18)] rfl (fun _ => rfl) rfl ?_
            refine dg_s (pc' := 164) [.int (10 : Int32), .int (((16 : Int32) * x1) + x2), .ref (x0 + 18)] rfl (fun _ => rfl) rfl ?_
            refine dg_s (pc' := 165) [.int ((((16 : Int32) * x1) + x2) - (10 : Int32)), .ref (x0 + 18)] rfl (fun _ => rfl) rfl ?_
            refine dg_s (pc' := 166) [.int (m.1 (x0 + 18) (Int32.toNatClampNeg ((((16 : Int32) * x1) + x2) - (10 : Int32))))] rfl (fun _ => rfl) rfl ?_
            exact dw_r (some (.inl (some (.int (m.1 (x0 + 18) (Int32.toNatClampNeg ((((16 : Int32) * x1) + x2) - (10 : Int32))))), m))) rfl (fun _ => rfl) (kR _ _)
          · refine dw_g rfl ?_
            refine dg_s (pc' := 145) [.ref x0] rfl (fun _ => rfl) rfl ?_
            refine dg_s (pc' := 146) [.int x1, .ref x0] rfl (fun _ => rfl) rfl ?_
            refine dw_b (fun t => Φ t) (pc' := 149) (fun q1 => [.int q1]) (fun q1 => m) rfl (fun _ => rfl) (fun q1 => ?_)
            refine dw_g rfl ?_
            refine dg_s (pc' := 166) [.int q1] rfl (fun _ => rfl) rfl ?_
            exact dw_r (some (.inl (some (.int q1), m))) rfl (fun _ => rfl) (kR _ _)
        · refine dw_g rfl ?_
          refine dg_s (pc' := 132) [.ref x0] rfl (fun _ => rfl) rfl ?_
          refine dg_s (pc' := 133) [.int x1, .ref x0] rfl (fun _ => rfl) rfl ?_
          refine dw_b (fun t => Φ t) (pc' := 136) (fun q2 => [.int q2]) (fun q2 => m) rfl (fun _ => rfl) (fun q2 => ?_)
          refine dw_g rfl ?_
          refine dg_s (pc' := 166) [.int q2] rfl (fun _ => rfl) rfl ?_
          exact dw_r (some (.inl (some (.int q2), m))) rfl (fun _ => rfl) (kR _ _)
      · refine dw_g rfl ?_
        refine dg_s (pc' := 118) [.ref x0] rfl (fun _ => rfl) rfl ?_
        refine dg_s (pc' := 121) [.ref (x0 + 19)] rfl (fun _ => rfl) rfl ?_
        refine dg_s (pc' := 122) [.int x1, .ref (x0 + 19)] rfl (fun _ => rfl) rfl ?_
        refine dg_s (pc' := 123) [.int (m.1 (x0 + 19) (Int32.toNatClampNeg x1))] rfl (fun _ => rfl) rfl ?_
        refine dg_s (pc' := 166) [.int (m.1 (x0 + 19) (Int32.toNatClampNeg x1))] rfl (fun _ => rfl) rfl ?_
        exact dw_r (some (.inl (some (.int (m.1 (x0 + 19) (Int32.toNatClampNeg x1))), m))) rfl (fun _ => rfl) (kR _ _)
    · refine dw_g rfl ?_
      refine dg_s (pc' := 105) [.ref x0] rfl (fun _ => rfl) rfl ?_
      refine dg_s (pc' := 106) [.int x1, .ref x0] rfl (fun _ => rfl) rfl ?_
      refine dw_b (fun t => Φ t) (pc' := 109) (fun q3 => [.int q3]) (fun q3 => m) rfl (fun _ => rfl) (fun q3 => ?_)
      refine dw_g rfl ?_
      refine dg_s (pc' := 166) [.int q3] rfl (fun _ => rfl) rfl ?_
      exact dw_r (some (.inl (some (.int q3), m))) rfl (fun _ => rfl) (kR _ _)
  · refine dw_g rfl ?_
    refine dg_s (pc' := 91) [.ref x0] rfl (fun _ => rfl) rfl ?_
    refine dg_s (pc' := 94) [.ref (x0 + 17)] rfl (fun _ => rfl) rfl ?_
    refine dg_s (pc' := 95) [.int x1, .ref (x0 + 17)] rfl (fun _ => rfl) rfl ?_
    refine dg_s (pc' := 96) [.int (m.1 (x0 + 17) (Int32.toNatClampNeg x1))] rfl (fun _ => rfl) rfl ?_
    refine dg_s (pc' := 166) [.int (m.1 (x0 + 17) (Int32.toNatClampNeg x1))] rfl (fun _ => rfl) rfl ?_
    exact dw_r (some (.inl (some (.int (m.1 (x0 + 17) (Int32.toNatClampNeg x1))), m))) rfl (fun _ => rfl) (kR _ _)
noncomputable def d_X10_of_b62 (x0 : Nat) (x1 : Int32) (x2 : Int32) (m : dc_M) : Option (Int32 × dc_M) :=
  (if (Int32.toInt (d_X10_in (Int32.toInt64 x2) (2 : Int64) (4 : Int64) m)) = 0 then (d_X10_of_b86 x0 x1 x2 m) else (if ¬ (Int32.toInt (m.1 x0 37)) = 0 then (d_X10_of_b86 x0 x1 x2 m) else some (((-2 : Int32), m))))
set_option maxHeartbeats 8000000 in
theorem k_X10_of_b62 {u : Nat} {N : Nat} {Φ : (Option (Int32 × dc_M)) → Option Value → dc_M → Prop} (x0 : Nat) (x1 : Int32) (x2 : Int32) (m : dc_M) (kR : ∀ (v : Int32) (m : dc_M), Φ (some ((v, m))) (some (.int v)) m)  {lv : ab_L} (f0 : ab_lk lv 0 = some (.ref x0)) (f1 : ab_lk lv 1 = some (.int x1)) (f2 : ab_lk lv 2 = some (.int x2)) : dc_pv u N ab_M_X10_of 62 lv [] m (Φ (d_X10_of_b62 x0 x1 x2 m)) := by
  refine dc_pv.mono (dc_ok (C := C_X10_of) (S := S_X10_of) CO_X10_of 400 62 [(0, .ref x0), (1, .int x1), (2, .int x2)] lv [] m (dc_sub_cons f0 (dc_sub_cons f1 (dc_sub_cons f2 (dc_sub_nil)))) ?_) (Nat.le_succ N)
  unfold d_X10_of_b62
  refine dg_s (pc' := 63) [.int x2] rfl (fun _ => rfl) rfl ?_
  refine dg_s (pc' := 64) [.long (Int32.toInt64 x2)] rfl (fun _ => rfl) rfl ?_
  refine dg_s (pc' := 67) [.long (2 : Int64), .long (Int32.toInt64 x2)] rfl (fun _ => rfl) rfl ?_
  refine dg_s (pc' := 70) [.long (4 : Int64), .long (2 : Int64), .long (Int32.toInt64 x2)] rfl (fun _ => rfl) rfl ?_
  refine dg_s (pc' := 73) [.int (d_X10_in (Int32.toInt64 x2) (2 : Int64) (4 : Int64) m)] rfl (fun _ => rfl) rfl ?_
  refine dw_if (fun t => Φ t) ((Int32.toInt (d_X10_in (Int32.toInt64 x2) (2 : Int64) (4 : Int64) m)) = 0) [] 86 76 rfl (fun _ => rfl) (fun c0 => ?_) (fun c0 => ?_)
  · exact dw_j rfl (fun lv1 hv => k_X10_of_b86 (Φ := (fun t => Φ t)) x0 x1 x2 m (fun _a _b => kR _a _b)  (hv.1 _ rfl) (hv.2.1 _ rfl) (hv.2.2.1 _ rfl))
  · refine dw_g rfl ?_
    refine dg_s (pc' := 77) [.ref x0] rfl (fun _ => rfl) rfl ?_
    refine dg_s (pc' := 80) [.int (m.1 x0 37)] rfl (fun _ => rfl) rfl ?_
    refine dw_if (fun t => Φ t) (¬ (Int32.toInt (m.1 x0 37)) = 0) [] 86 83 rfl (fun _ => rfl) (fun c1 => ?_) (fun c1 => ?_)
    · exact dw_j rfl (fun lv1 hv => k_X10_of_b86 (Φ := (fun t => Φ t)) x0 x1 x2 m (fun _a _b => kR _a _b)  (hv.1 _ rfl) (hv.2.1 _ rfl) (hv.2.2.1 _ rfl))
    · refine dw_g rfl ?_
      refine dg_s (pc' := 85) [.int (-2 : Int32)] rfl (fun _ => rfl) rfl ?_
      exact dw_r (some (.inl (some (.int (-2 : Int32)), m))) rfl (fun _ => rfl) (kR _ _)
noncomputable def d_X10_of (x0 : Nat) (x1 : Int32) (x2 : Int32) (m : dc_M) : Option (Int32 × dc_M) :=
  ((d_X10_layRight x0 m).bind (fun q1 => (if ¬ (Int32.toInt (q1.2.1 x0 33)) = 1 then some (((-1 : Int32), q1.2)) else (if (Int32.toInt (d_X10_in (Int32.toInt64 x1) (0 : Int64) (Int32.toInt64 ((q1.2.1 x0 32) - (1 : Int32))) q1.2)) = 0 then some (((-1 : Int32), q1.2)) else (if ¬ (Int32.toInt (d_X10_in (Int32.toInt64 x2) (0 : Int64) (4 : Int64) q1.2)) = 0 then (d_X10_of_b62 x0 x1 x2 q1.2) else (if ¬ (Int32.toInt (d_X10_in (Int32.toInt64 x2) (10 : Int64) (Int32.toInt64 ((9 : Int32) + (q1.2.1 x0 3))) q1.2)) = 0 then (d_X10_of_b62 x0 x1 x2 q1.2) else some (((-1 : Int32), q1.2))))))))
set_option maxHeartbeats 8000000 in
theorem k_X10_of {u : Nat} {N : Nat} {Φ : (Option (Int32 × dc_M)) → Option Value → dc_M → Prop} (x0 : Nat) (x1 : Int32) (x2 : Int32) (m : dc_M) (kR : ∀ (v : Int32) (m : dc_M), Φ (some ((v, m))) (some (.int v)) m)  {lv : ab_L} (f0 : ab_lk lv 0 = some (.ref x0)) (f1 : ab_lk lv 1 = some (.int x1)) (f2 : ab_lk lv 2 = some (.int x2)) : dc_pv u N ab_M_X10_of 0 lv [] m (Φ (d_X10_of x0 x1 x2 m)) := by
  refine dc_pv.mono (dc_ok (C := C_X10_of) (S := S_X10_of) CO_X10_of 400 0 [(0, .ref x0), (1, .int x1), (2, .int x2)] lv [] m (dc_sub_cons f0 (dc_sub_cons f1 (dc_sub_cons f2 (dc_sub_nil)))) ?_) (Nat.le_succ N)
  unfold d_X10_of
  refine dg_s (pc' := 1) [.ref x0] rfl (fun _ => rfl) rfl ?_
  refine dw_b (fun t => Φ t) (pc' := 4) (fun q1 => [.int q1.1]) (fun q1 => q1.2) rfl (fun _ => rfl) (fun q1 => ?_)
  refine dw_g rfl ?_
  refine dg_s (pc' := 5) [] rfl (fun _ => rfl) rfl ?_
  refine dg_s (pc' := 6) [.ref x0] rfl (fun _ => rfl) rfl ?_
  refine dg_s (pc' := 9) [.int (q1.2.1 x0 33)] rfl (fun _ => rfl) rfl ?_
  refine dg_s (pc' := 10) [.int (1 : Int32), .int (q1.2.1 x0 33)] rfl (fun _ => rfl) rfl ?_
  refine dw_if (fun t => Φ t) (¬ (Int32.toInt (q1.2.1 x0 33)) = 1) [] 60 13 rfl (fun _ => rfl) (fun c0 => ?_) (fun c0 => ?_)
  · refine dw_g rfl ?_
    refine dg_s (pc' := 61) [.int (-1 : Int32)] rfl (fun _ => rfl) rfl ?_
    exact dw_r (some (.inl (some (.int (-1 : Int32)), q1.2))) rfl (fun _ => rfl) (kR _ _)
  · refine dw_g rfl ?_
    refine dg_s (pc' := 14) [.int x1] rfl (fun _ => rfl) rfl ?_
    refine dg_s (pc' := 15) [.long (Int32.toInt64 x1)] rfl (fun _ => rfl) rfl ?_
    refine dg_s (pc' := 16) [.long (0 : Int64), .long (Int32.toInt64 x1)] rfl (fun _ => rfl) rfl ?_
    refine dg_s (pc' := 17) [.ref x0, .long (0 : Int64), .long (Int32.toInt64 x1)] rfl (fun _ => rfl) rfl ?_
    refine dg_s (pc' := 20) [.int (q1.2.1 x0 32), .long (0 : Int64), .long (Int32.toInt64 x1)] rfl (fun _ => rfl) rfl ?_
    refine dg_s (pc' := 21) [.int (1 : Int32), .int (q1.2.1 x0 32), .long (0 : Int64), .long (Int32.toInt64 x1)] rfl (fun _ => rfl) rfl ?_
    refine dg_s (pc' := 22) [.int ((q1.2.1 x0 32) - (1 : Int32)), .long (0 : Int64), .long (Int32.toInt64 x1)] rfl (fun _ => rfl) rfl ?_
    refine dg_s (pc' := 23) [.long (Int32.toInt64 ((q1.2.1 x0 32) - (1 : Int32))), .long (0 : Int64), .long (Int32.toInt64 x1)] rfl (fun _ => rfl) rfl ?_
    refine dg_s (pc' := 26) [.int (d_X10_in (Int32.toInt64 x1) (0 : Int64) (Int32.toInt64 ((q1.2.1 x0 32) - (1 : Int32))) q1.2)] rfl (fun _ => rfl) rfl ?_
    refine dw_if (fun t => Φ t) ((Int32.toInt (d_X10_in (Int32.toInt64 x1) (0 : Int64) (Int32.toInt64 ((q1.2.1 x0 32) - (1 : Int32))) q1.2)) = 0) [] 60 29 rfl (fun _ => rfl) (fun c1 => ?_) (fun c1 => ?_)
    · refine dw_g rfl ?_
      refine dg_s (pc' := 61) [.int (-1 : Int32)] rfl (fun _ => rfl) rfl ?_
      exact dw_r (some (.inl (some (.int (-1 : Int32)), q1.2))) rfl (fun _ => rfl) (kR _ _)
    · refine dw_g rfl ?_
      refine dg_s (pc' := 30) [.int x2] rfl (fun _ => rfl) rfl ?_
      refine dg_s (pc' := 31) [.long (Int32.toInt64 x2)] rfl (fun _ => rfl) rfl ?_
      refine dg_s (pc' := 32) [.long (0 : Int64), .long (Int32.toInt64 x2)] rfl (fun _ => rfl) rfl ?_
      refine dg_s (pc' := 35) [.long (4 : Int64), .long (0 : Int64), .long (Int32.toInt64 x2)] rfl (fun _ => rfl) rfl ?_
      refine dg_s (pc' := 38) [.int (d_X10_in (Int32.toInt64 x2) (0 : Int64) (4 : Int64) q1.2)] rfl (fun _ => rfl) rfl ?_
      refine dw_if (fun t => Φ t) (¬ (Int32.toInt (d_X10_in (Int32.toInt64 x2) (0 : Int64) (4 : Int64) q1.2)) = 0) [] 62 41 rfl (fun _ => rfl) (fun c2 => ?_) (fun c2 => ?_)
      · exact dw_j rfl (fun lv1 hv => k_X10_of_b62 (Φ := (fun t => Φ t)) x0 x1 x2 q1.2 (fun _a _b => kR _a _b)  (hv.1 _ rfl) (hv.2.1 _ rfl) (hv.2.2.1 _ rfl))
      · refine dw_g rfl ?_
        refine dg_s (pc' := 42) [.int x2] rfl (fun _ => rfl) rfl ?_
        refine dg_s (pc' := 43) [.long (Int32.toInt64 x2)] rfl (fun _ => rfl) rfl ?_
        refine dg_s (pc' := 46) [.long (10 : Int64), .long (Int32.toInt64 x2)] rfl (fun _ => rfl) rfl ?_
        refine dg_s (pc' := 48) [.int (9 : Int32), .long (10 : Int64), .long (Int32.toInt64 x2)] rfl (fun _ => rfl) rfl ?_
        refine dg_s (pc' := 49) [.ref x0, .int (9 : Int32), .long (10 : Int64), .long (Int32.toInt64 x2)] rfl (fun _ => rfl) rfl ?_
        refine dg_s (pc' := 52) [.int (q1.2.1 x0 3), .int (9 : Int32), .long (10 : Int64), .long (Int32.toInt64 x2)] rfl (fun _ => rfl) rfl ?_
        refine dg_s (pc' := 53) [.int ((9 : Int32) + (q1.2.1 x0 3)), .long (10 : Int64), .long (Int32.toInt64 x2)] rfl (fun _ => rfl) rfl ?_
        refine dg_s (pc' := 54) [.long (Int32.toInt64 ((9 : Int32) + (q1.2.1 x0 3))), .long (10 : Int64), .long (Int32.toInt64 x2)] rfl (fun _ => rfl) rfl ?_
        refine dg_s (pc' := 57) [.int (d_X10_in (Int32.toInt64 x2) (10 : Int64) (Int32.toInt64 ((9 : Int32) + (q1.2.1 x0 3))) q1.2)] rfl (fun _ => rfl) rfl ?_
        refine dw_if (fun t => Φ t) (¬ (Int32.toInt (d_X10_in (Int32.toInt64 x2) (10 : Int64) (Int32.toInt64 ((9 : Int32) + (q1.2.1 x0 3))) q1.2)) = 0) [] 62 60 rfl (fun _ => rfl) (fun c3 => ?_) (fun c3 => ?_)
        · exact dw_j rfl (fun lv1 hv => k_X10_of_b62 (Φ := (fun t => Φ t)) x0 x1 x2 q1.2 (fun _a _b => kR _a _b)  (hv.1 _ rfl) (hv.2.1 _ rfl) (hv.2.2.1 _ rfl))
        · refine dw_g rfl ?_
          refine dg_s (pc' := 61) [.int (-1 : Int32)] rfl (fun _ => rfl) rfl ?_
          exact dw_r (some (.inl (some (.int (-1 : Int32)), q1.2))) rfl (fun _ => rfl) (kR _ _)
noncomputable def H_X10_of : dc_H := fun As m k => match As with
  | [.ref x0, .int x1, .int x2] => (d_X10_of x0 x1 x2 m).bind (fun q => k (some (.int q.1)) q.2)
  | _ => dc_kz
theorem H_X10_of_ok {u : Nat} : dc_cok u 181 H_X10_of := fun M' hG N As m k P hz hP => by
  obtain rfl : ab_M_X10_of = M' := Option.some.inj hG
  unfold H_X10_of at hP
  split at hP
  · rename_i x0 x1 x2
    exact dc_pv.imp (k_X10_of (Φ := fun (t : Option (Int32 × dc_M)) r m' => P (t.bind (fun q => k (some (.int q.1)) q.2)) → P (k r m')) x0 x1 x2 m (fun _ _ h => h) rfl rfl rfl) (fun r m' h => h hP)
  · exact absurd hP hz
