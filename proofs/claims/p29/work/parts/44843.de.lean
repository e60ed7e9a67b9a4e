/-! ===== methods as functions (written by a program) ===== -/
noncomputable def C_X4_readIndex : List (Nat × dc_H) := [(56, H_X4_refuse), (55, H_X4_take)]
theorem CO_X4_readIndex {u : Nat} : dc_CO u C_X4_readIndex := dc_CO_cons H_X4_refuse_ok (dc_CO_cons H_X4_take_ok (dc_CO_nil))
def S_X4_readIndex : List (Nat × List Nat) := []
noncomputable def d_X4_readIndex (x0 : Nat) (m : dc_M) : Option (Int32 × dc_M) :=
  ((d_X4_take x0 m).bind (fun q1 => (if (Int32.toInt (q1.1 x0 5)) = 2 then ((d_X4_take x0 q1).bind (fun q2 => some ((((q1.1 x0 7) - (48 : Int32)), q2)))) else (dc_let (d_X4_refuse x0 (2 : Int32) (q1.1 x0 6) q1) (fun q3 => some (((0 : Int32), q3)))))))
set_option maxHeartbeats 8000000 in
theorem k_X4_readIndex {u : Nat} {N : Nat} {Φ : (Option (Int32 × dc_M)) → Option Value → dc_M → Prop} (x0 : Nat) (m : dc_M) (kR : ∀ (v : Int32) (m : dc_M), Φ (some ((v, m))) (some (.int v)) m)  {lv : ab_L} (f0 : ab_lk lv 0 = some (.ref x0)) : dc_pv u N ab_M_X4_readIndex 0 lv [] m (Φ (d_X4_readIndex x0 m)) := by
  refine dc_pv.mono (dc_ok (C := C_X4_readIndex) (S := S_X4_readIndex) CO_X4_readIndex 400 0 [(0, .ref x0)] lv [] m (dc_sub_cons f0 (dc_sub_nil)) ?_) (Nat.le_succ N)
  unfold d_X4_readIndex
  refine dg_s (pc' := 1) [.ref x0] rfl (fun _ => rfl) rfl ?_
  refine dw_b (fun t => Φ t) (pc' := 4) (fun q1 => []) (fun q1 => q1) rfl (fun _ => rfl) (fun q1 => ?_)
  refine dw_g rfl ?_
  refine dg_s (pc' := 5) [.ref x0] rfl (fun _ => rfl) rfl ?_
  refine dg_s (pc' := 8) [.int (q1.1 x0 7)] rfl (fun _ => rfl) rfl ?_
  refine dg_s (pc' := 10) [.int (48 : Int32), .int (q1.1 x0 7)] rfl (fun _ => rfl) rfl ?_
  refine dg_s (pc' := 11) [.int ((q1.1 x0 7) - (48 : Int32))] rfl (fun _ => rfl) rfl ?_
  refine dg_L (pc' := 12) [(1, .int ((q1.1 x0 7) - (48 : Int32))), (0, .ref x0)] [] rfl (fun _ => rfl) rfl ?_
  refine dg_s (pc' := 13) [.ref x0] rfl (fun _ => rfl) rfl ?_
  refine dg_s (pc' := 16) [.int (q1.1 x0 5)] rfl (fun _ => rfl) rfl ?_
  refine dg_s (pc' := 17) [.int (2 : Int32), .int (q1.1 x0 5)] rfl (fun _ => rfl) rfl ?_
  refine dw_if (fun t => Φ t) ((Int32.toInt (q1.1 x0 5)) = 2) [] 31 20 rfl (fun _ => rfl) (fun c0 => ?_) (fun c0 => ?_)
  · refine dw_g rfl ?_
    refine dg_s (pc' := 32) [.ref x0] rfl (fun _ => rfl) rfl ?_
    refine dw_b (fun t => Φ t) (pc' := 35) (fun q2 => []) (fun q2 => q2) rfl (fun _ => rfl) (fun q2 => ?_)
    refine dw_g rfl ?_
    refine dg_s (pc' := 36) [.int ((q1.1 x0 7) - (48 : Int32))] rfl (fun _ => rfl) rfl ?_
    exact dw_r (some (.inl (some (.int ((q1.1 x0 7) - (48 : Int32))), q2))) rfl (fun _ => rfl) (kR _ _)
  · refine dw_g rfl ?_
    refine dg_s (pc' := 21) [.ref x0] rfl (fun _ => rfl) rfl ?_
    refine dg_s (pc' := 22) [.int (2 : Int32), .ref x0] rfl (fun _ => rfl) rfl ?_
    refine dg_s (pc' := 23) [.ref x0, .int (2 : Int32), .ref x0] rfl (fun _ => rfl) rfl ?_
    refine dg_s (pc' := 26) [.int (q1.1 x0 6), .int (2 : Int32), .ref x0] rfl (fun _ => rfl) rfl ?_
    refine dw_l (fun t => Φ t) (pc' := 29) (fun q3 => []) (fun q3 => q3) rfl (fun _ => rfl) (fun q3 => ?_)
    refine dw_g rfl ?_
    refine dg_s (pc' := 30) [.int (0 : Int32)] rfl (fun _ => rfl) rfl ?_
    exact dw_r (some (.inl (some (.int (0 : Int32)), q3))) rfl (fun _ => rfl) (kR _ _)
noncomputable def H_X4_readIndex : dc_H := fun As m k => match As with
  | [.ref x0] => (d_X4_readIndex x0 m).bind (fun q => k (some (.int q.1)) q.2)
  | _ => dc_kz
theorem H_X4_readIndex_ok {u : Nat} : dc_cok u 52 H_X4_readIndex := fun M' hG N As m k P hz hP => by
  obtain rfl : ab_M_X4_readIndex = M' := Option.some.inj hG
  unfold H_X4_readIndex at hP
  split at hP
  · rename_i x0
    exact dc_pv.imp (k_X4_readIndex (Φ := fun (t : Option (Int32 × dc_M)) r m' => P (t.bind (fun q => k (some (.int q.1)) q.2)) → P (k r m')) x0 m (fun _ _ h => h) rfl) (fun r m' h => h hP)
  · exact absurd hP hz
noncomputable def C_X4_readEvent : List (Nat × dc_H) := [(31, H_X3_wireCalled), (57, H_X4_isLetter), (58, H_X4_isSign), (53, H_X4_numberOf), (52, H_X4_readIndex), (56, H_X4_refuse), (55, H_X4_take)]
theorem CO_X4_readEvent : dc_CO 3 C_X4_readEvent := dc_CO_cons H_X3_wireCalled_ok (dc_CO_cons H_X4_isLetter_ok (dc_CO_cons H_X4_isSign_ok (dc_CO_cons H_X4_numberOf_ok (dc_CO_cons H_X4_readIndex_ok (dc_CO_cons H_X4_refuse_ok (dc_CO_cons H_X4_take_ok (dc_CO_nil)))))))
def S_X4_readEvent : List (Nat × List Nat) := [(31, [0, 1, 2]), (91, [0, 1, 2, 3]), (105, [0, 1, 2, 3]), (128, [0, 1, 2, 3, 4]), (151, [0, 1, 2])]
noncomputable def d_X4_readEvent_b151 (x0 : Nat) (x1 : Int32) (x2 : Int32) (s0 : Int32) (m : dc_M) : Option (Int32 × dc_M) :=
  (if 0 ≤ (Int32.toInt s0) then (if (Int32.toInt ((x1 >>> (s0 &&& 31)) &&& (1 : Int32))) = 0 then some ((((1 : Int32) <<< (s0 &&& 31)), m)) else (dc_let (d_X4_refuse x0 (5 : Int32) x2 m) (fun q1 => some (((0 : Int32), q1))))) else (dc_let (d_X4_refuse x0 (6 : Int32) x2 m) (fun q2 => some (((0 : Int32), q2)))))
set_option maxHeartbeats 8000000 in
theorem k_X4_readEvent_b151 {N : Nat} {Φ : (Option (Int32 × dc_M)) → Option Value → dc_M → Prop} (x0 : Nat) (x1 : Int32) (x2 : Int32) (s0 : Int32) (m : dc_M) (kR : ∀ (v : Int32) (m : dc_M), Φ (some ((v, m))) (some (.int v)) m)  {lv : ab_L} (f0 : ab_lk lv 0 = some (.ref x0)) (f1 : ab_lk lv 1 = some (.int x1)) (f2 : ab_lk lv 2 = some (.int x2)) : dc_pv 3 N ab_M_X4_readEvent 151 lv [.int s0] m (Φ (d_X4_readEvent_b151 x0 x1 x2 s0 m)) := by
  refine dc_pv.mono (dc_ok (C := C_X4_readEvent) (S := S_X4_readEvent) CO_X4_readEvent 400 151 [(0, .ref x0), (1, .int x1), (2, .int x2)] lv [.int s0] m (dc_sub_cons f0 (dc_sub_cons f1 (dc_sub_cons f2 (dc_sub_nil)))) ?_) (Nat.le_succ N)
  unfold d_X4_readEvent_b151
  refine dg_L (pc' := 153) [(6, .int s0), (0, .ref x0), (1, .int x1), (2, .int x2)] [] rfl (fun _ => rfl) rfl ?_
  refine dg_s (pc' := 155) [.int s0] rfl (fun _ => rfl) rfl ?_
  refine dw_if (fun t => Φ t) (0 ≤ (Int32.toInt s0)) [] 167 158 rfl (fun _ => rfl) (fun c0 => ?_) (fun c0 => ?_)
  · refine dw_g rfl ?_
    refine dg_s (pc' := 168) [.int x1] rfl (fun _ => rfl) rfl ?_
    refine dg_s (pc' := 170) [.int s0, .int x1] rfl (fun _ => rfl) rfl ?_
    refine dg_s (pc' := 171) [.int (x1 >>> (s0 &&& 31))] rfl (fun _ => rfl) rfl ?_
    refine dg_s (pc' := 172) [.int (1 : Int32), .int (x1 >>> (s0 &&& 31))] rfl (fun _ => rfl) rfl ?_
    refine dg_s (pc' := 173) [.int ((x1 >>> (s0 &&& 31)) &&& (1 : Int32))] rfl (fun _ => rfl) rfl ?_
    refine dw_if (fun t => Φ t) ((Int32.toInt ((x1 >>> (s0 &&& 31)) &&& (1 : Int32))) = 0) [] 184 176 rfl (fun _ => rfl) (fun c1 => ?_) (fun c1 => ?_)
    · refine dw_g rfl ?_
      refine dg_s (pc' := 185) [.int (1 : Int32)] rfl (fun _ => rfl) rfl ?_
      refine dg_s (pc' := 187) [.int s0, .int (1 : Int32)] rfl (fun _ => rfl) rfl ?_
      refine dg_s (pc' := 188) [.int ((1 : Int32) <<< (s0 &&& 31))] rfl (fun _ => rfl) rfl ?_
      exact dw_r (some (.inl (some (.int ((1 : Int32) <<< (s0 &&& 31))), m))) rfl (fun _ => rfl) (kR _ _)
    · refine dw_g rfl ?_
      refine dg_s (pc' := 177) [.ref x0] rfl (fun _ => rfl) rfl ?_
      refine dg_s (pc' := 178) [.int (5 : Int32), .ref x0] rfl (fun _ => rfl) rfl ?_
      refine dg_s (pc' := 179) [.int x2, .int (5 : Int32), .ref x0] rfl (fun _ => rfl) rfl ?_
      refine dw_l (fun t => Φ t) (pc' := 182) (fun q1 => []) (fun q1 => q1) rfl (fun _ => rfl) (fun q1 => ?_)
      refine dw_g rfl ?_
      refine dg_s (pc' := 183) [.int (0 : Int32)] rfl (fun _ => rfl) rfl ?_
      exact dw_r (some (.inl (some (.int (0 : Int32)), q1))) rfl (fun _ => rfl) (kR _ _)
  · refine dw_g rfl ?_
    refine dg_s (pc' := 159) [.ref x0] rfl (fun _ => rfl) rfl ?_
    refine dg_s (pc' := 161) [.int (6 : Int32), .ref x0] rfl (fun _ => rfl) rfl ?_
    refine dg_s (pc' := 162) [.int x2, .int (6 : Int32), .ref x0] rfl (fun _ => rfl) rfl ?_
    refine dw_l (fun t => Φ t) (pc' := 165) (fun q2 => []) (fun q2 => q2) rfl (fun _ => rfl) (fun q2 => ?_)
    refine dw_g rfl ?_
    refine dg_s (pc' := 166) [.int (0 : Int32)] rfl (fun _ => rfl) rfl ?_
    exact dw_r (some (.inl (some (.int (0 : Int32)), q2))) rfl (fun _ => rfl) (kR _ _)
noncomputable def d_X4_readEvent_b128 (x0 : Nat) (x1 : Int32) (x2 : Int32) (x3 : Int32) (x4 : Int32) (s0 : Int32) (m : dc_M) : Option (Int32 × dc_M) :=
  (if ¬ (Int32.toInt (m.1 x0 2)) = 0 then (d_X4_readEvent_b151 x0 x1 x2 (-4 : Int32) m) else ((d_X4_numberOf x0 x3 x4 s0 m).bind (fun q1 => (d_X4_readEvent_b151 x0 x1 x2 q1.1 q1.2))))
set_option maxHeartbeats 8000000 in
theorem k_X4_readEvent_b128 {N : Nat} {Φ : (Option (Int32 × dc_M)) → Option Value → dc_M → Prop} (x0 : Nat) (x1 : Int32) (x2 : Int32) (x3 : Int32) (x4 : Int32) (s0 : Int32) (m : dc_M) (kR : ∀ (v : Int32) (m : dc_M), Φ (some ((v, m))) (some (.int v)) m)  {lv : ab_L} (f0 : ab_lk lv 0 = some (.ref x0)) (f1 : ab_lk lv 1 = some (.int x1)) (f2 : ab_lk lv 2 = some (.int x2)) (f3 : ab_lk lv 3 = some (.int x3)) (f4 : ab_lk lv 4 = some (.int x4)) : dc_pv 3 N ab_M_X4_readEvent 128 lv [.int s0] m (Φ (d_X4_readEvent_b128 x0 x1 x2 x3 x4 s0 m)) := by
  refine dc_pv.mono (dc_ok (C := C_X4_readEvent) (S := S_X4_readEvent) CO_X4_readEvent 400 128 [(0, .ref x0), (1, .int x1), (2, .int x2), (3, .int x3), (4, .int x4)] lv [.int s0] m (dc_sub_cons f0 (dc_sub_cons f1 (dc_sub_cons f2 (dc_sub_cons f3 (dc_sub_cons f4 (dc_sub_nil)))))) ?_) (Nat.le_succ N)
  unfold d_X4_readEvent_b128
  refine dg_L (pc' := 130) [(5, .int s0), (0, .ref x0), (1, .int x1), (2, .int x2), (3, .int x3), (4, .int x4)] [] rfl (fun _ => rfl) rfl ?_
  refine dg_s (pc' := 131) [.ref x0] rfl (fun _ => rfl) rfl ?_
  refine dg_s (pc' := 134) [.int (m.1 x0 2)] rfl (fun _ => rfl) rfl ?_
  refine dw_if (fun t => Φ t) (¬ (Int32.toInt (m.1 x0 2)) = 0) [] 149 137 rfl (fun _ => rfl) (fun c0 => ?_) (fun c0 => ?_)
  · refine dw_g rfl ?_
    refine dw_s (pc' := 151) [.int (-4 : Int32)] rfl (fun _ => rfl) ?_
    exact dw_j rfl (fun lv1 hv => k_X4_readEvent_b151 (Φ := (fun t => Φ t)) x0 x1 x2 (-4 : Int32) m (fun _a _b => kR _a _b)  (hv.1 _ rfl) (hv.2.1 _ rfl) (hv.2.2.1 _ rfl))
  · refine dw_g rfl ?_
    refine dg_s (pc' := 138) [.ref x0] rfl (fun _ => rfl) rfl ?_
    refine dg_s (pc' := 139) [.int x3, .ref x0] rfl (fun _ => rfl) rfl ?_
    refine dg_s (pc' := 141) [.int x4, .int x3, .ref x0] rfl (fun _ => rfl) rfl ?_
    refine dg_s (pc' := 143) [.int s0, .int x4, .int x3, .ref x0] rfl (fun _ => rfl) rfl ?_
    refine dw_b (fun t => Φ t) (pc' := 146) (fun q1 => [.int q1.1]) (fun q1 => q1.2) rfl (fun _ => rfl) (fun q1 => ?_)
    refine dw_g rfl ?_
    refine dw_s (pc' := 151) [.int q1.1] rfl (fun _ => rfl) ?_
    exact dw_j rfl (fun lv1 hv => k_X4_readEvent_b151 (Φ := (fun t => Φ t)) x0 x1 x2 q1.1 q1.2 (fun _a _b => kR _a _b)  (hv.1 _ rfl) (hv.2.1 _ rfl) (hv.2.2.1 _ rfl))
noncomputable def d_X4_readEvent_b105 (x0 : Nat) (x1 : Int32) (x2 : Int32) (x3 : Int32) (s0 : Int32) (m : dc_M) : Option (Int32 × dc_M) :=
  ((d_X4_take x0 m).bind (fun q1 => (if (Int32.toInt (d_X4_isSign x0 (47 : Int32) q1)) = 0 then (d_X4_readEvent_b128 x0 x1 x2 x3 s0 (0 : Int32) q1) else ((d_X4_readIndex x0 q1).bind (fun q2 => (d_X4_readEvent_b128 x0 x1 x2 x3 s0 q2.1 q2.2))))))
set_option maxHeartbeats 8000000 in
theorem k_X4_readEvent_b105 {N : Nat} {Φ : (Option (Int32 × dc_M)) → Option Value → dc_M → Prop} (x0 : Nat) (x1 : Int32) (x2 : Int32) (x3 : Int32) (s0 : Int32) (m : dc_M) (kR : ∀ (v : Int32) (m : dc_M), Φ (some ((v, m))) (some (.int v)) m)  {lv : ab_L} (f0 : ab_lk lv 0 = some (.ref x0)) (f1 : ab_lk lv 1 = some (.int x1)) (f2 : ab_lk lv 2 = some (.int x2)) (f3 : ab_lk lv 3 = some (.int x3)) : dc_pv 3 N ab_M_X4_readEvent 105 lv [.int s0] m (Φ (d_X4_readEvent_b105 x0 x1 x2 x3 s0 m)) := by
  refine dc_pv.mono (dc_ok (C := C_X4_readEvent) (S := S_X4_readEvent) CO_X4_readEvent 400 105 [(0, .ref x0), (1, .int x1), (2, .int x2), (3, .int x3)] lv [.int s0] m (dc_sub_cons f0 (dc_sub_cons f1 (dc_sub_cons f2 (dc_sub_cons f3 (dc_sub_nil))))) ?_) (Nat.le_succ N)
  unfold d_X4_readEvent_b105
  refine dg_L (pc' := 107) [(4, .int s0), (0, .ref x0), (1, .int x1), (2, .int x2), (3, .int x3)] [] rfl (fun _ => rfl) rfl ?_
  refine dg_s (pc' := 108) [.ref x0] rfl (fun _ => rfl) rfl ?_
  refine dw_b (fun t => Φ t) (pc' := 111) (fun q1 => []) (fun q1 => q1) rfl (fun _ => rfl) (fun q1 => ?_)
  refine dw_g rfl ?_
  refine dg_s (pc' := 112) [.ref x0] rfl (fun _ => rfl) rfl ?_
  refine dg_s (pc' := 114) [.int (47 : Int32), .ref x0] rfl (fun _ => rfl) rfl ?_
  refine dg_s (pc' := 117) [.int (d_X4_isSign x0 (47 : Int32) q1)] rfl (fun _ => rfl) rfl ?_
  refine dw_if (fun t => Φ t) ((Int32.toInt (d_X4_isSign x0 (47 : Int32) q1)) = 0) [] 127 120 rfl (fun _ => rfl) (fun c0 => ?_) (fun c0 => ?_)
  · refine dw_g rfl ?_
    refine dw_s (pc' := 128) [.int (0 : Int32)] rfl (fun _ => rfl) ?_
    exact dw_j rfl (fun lv1 hv => k_X4_readEvent_b128 (Φ := (fun t => Φ t)) x0 x1 x2 x3 s0 (0 : Int32) q1 (fun _a _b => kR _a _b)  (hv.1 _ rfl) (hv.2.1 _ rfl) (hv.2.2.1 _ rfl) (hv.2.2.2.1 _ rfl) (hv.2.2.2.2.1 _ rfl))
  · refine dw_g rfl ?_
    refine dg_s (pc' := 121) [.ref x0] rfl (fun _ => rfl) rfl ?_
    refine dw_b (fun t => Φ t) (pc' := 124) (fun q2 => [.int q2.1]) (fun q2 => q2.2) rfl (fun _ => rfl) (fun q2 => ?_)
    refine dw_g rfl ?_
    refine dw_s (pc' := 128) [.int q2.1] rfl (fun _ => rfl) ?_
    exact dw_j rfl (fun lv1 hv => k_X4_readEvent_b128 (Φ := (fun t => Φ t)) x0 x1 x2 x3 s0 q2.1 q2.2 (fun _a _b => kR _a _b)  (hv.1 _ rfl) (hv.2.1 _ rfl) (hv.2.2.1 _ rfl) (hv.2.2.2.1 _ rfl) (hv.2.2.2.2.1 _ rfl))
noncomputable def d_X4_readEvent_b91 (x0 : Nat) (x1 : Int32) (x2 : Int32) (x3 : Int32) (m : dc_M) : Option (Int32 × dc_M) :=
  (if ¬ (Int32.toInt (m.1 x0 7)) = 43 then (d_X4_readEvent_b105 x0 x1 x2 x3 (0 : Int32) m) else (d_X4_readEvent_b105 x0 x1 x2 x3 (1 : Int32) m))
set_option maxHeartbeats 8000000 in
theorem k_X4_readEvent_b91 {N : Nat} {Φ : (Option (Int32 × dc_M)) → Option Value → dc_M → Prop} (x0 : Nat) (x1 : Int32) (x2 : Int32) (x3 : Int32) (m : dc_M) (kR : ∀ (v : Int32) (m : dc_M), Φ (some ((v, m))) (some (.int v)) m)  {lv : ab_L} (f0 : ab_lk lv 0 = some (.ref x0)) (f1 : ab_lk lv 1 = some (.int x1)) (f2 : ab_lk lv 2 = some (.int x2)) (f3 : ab_lk lv 3 = some (.int x3)) : dc_pv 3 N ab_M_X4_readEvent 91 lv [] m (Φ (d_X4_readEvent_b91 x0 x1 x2 x3 m)) := by
  refine dc_pv.mono (dc_ok (C := C_X4_readEvent) (S := S_X4_readEvent) CO_X4_readEvent 400 91 [(0, .ref x0), (1, .int x1), (2, .int x2), (3, .int x3)] lv [] m (dc_sub_cons f0 (dc_sub_cons f1 (dc_sub_cons f2 (dc_sub_cons f3 (dc_sub_nil))))) ?_) (Nat.le_succ N)
  unfold d_X4_readEvent_b91
  refine dg_s (pc' := 92) [.ref x0] rfl (fun _ => rfl) rfl ?_
  refine dg_s (pc' := 95) [.int (m.1 x0 7)] rfl (fun _ => rfl) rfl ?_
  refine dg_s (pc' := 97) [.int (43 : Int32), .int (m.1 x0 7)] rfl (fun _ => rfl) rfl ?_
  refine dw_if (fun t => Φ t) (¬ (Int32.toInt (m.1 x0 7)) = 43) [] 104 100 rfl (fun _ => rfl) (fun c0 => ?_) (fun c0 => ?_)
  · refine dw_g rfl ?_
    refine dw_s (pc' := 105) [.int (0 : Int32)] rfl (fun _ => rfl) ?_
    exact dw_j rfl (fun lv1 hv => k_X4_readEvent_b105 (Φ := (fun t => Φ t)) x0 x1 x2 x3 (0 : Int32) m (fun _a _b => kR _a _b)  (hv.1 _ rfl) (hv.2.1 _ rfl) (hv.2.2.1 _ rfl) (hv.2.2.2.1 _ rfl))
  · refine dw_g rfl ?_
    refine dg_s (pc' := 101) [.int (1 : Int32)] rfl (fun _ => rfl) rfl ?_
    refine dw_s (pc' := 105) [.int (1 : Int32)] rfl (fun _ => rfl) ?_
    exact dw_j rfl (fun lv1 hv => k_X4_readEvent_b105 (Φ := (fun t => Φ t)) x0 x1 x2 x3 (1 : Int32) m (fun _a _b => kR _a _b)  (hv.1 _ rfl) (hv.2.1 _ rfl) (hv.2.2.1 _ rfl) (hv.2.2.2.1 _ rfl))
noncomputable def d_X4_readEvent_b31 (x0 : Nat) (x1 : Int32) (x2 : Int32) (s0 : Int32) (m : dc_M) : Option (Int32 × dc_M) :=
  (if 0 ≤ (Int32.toInt s0) then ((d_X4_take x0 m).bind (fun q1 => (if ¬ (Int32.toInt (d_X4_isSign x0 (43 : Int32) q1)) = 0 then (d_X4_readEvent_b91 x0 x1 x2 s0 q1) else (if ¬ (Int32.toInt (d_X4_isSign x0 (45 : Int32) q1)) = 0 then (d_X4_readEvent_b91 x0 x1 x2 s0 q1) else (dc_let (d_X4_refuse x0 (2 : Int32) (q1.1 x0 6) q1) (fun q2 => some (((0 : Int32), q2)))))))) else (if (Int32.toInt (d_X4_isLetter x0 m)) = 0 then (dc_let (d_X4_refuse x0 (2 : Int32) (m.1 x0 6) m) (fun q3 => some (((0 : Int32), q3)))) else (dc_let (d_X4_refuse x0 (4 : Int32) (m.1 x0 6) m) (fun q4 => some (((0 : Int32), q4))))))
set_option maxHeartbeats 8000000 in
theorem k_X4_readEvent_b31 {N : Nat} {Φ : (Option (Int32 × dc_M)) → Option Value → dc_M → Prop} (x0 : Nat) (x1 : Int32) (x2 : Int32) (s0 : Int32) (m : dc_M) (kR : ∀ (v : Int32) (m : dc_M), Φ (some ((v, m))) (some (.int v)) m)  {lv : ab_L} (f0 : ab_lk lv 0 = some (.ref x0)) (f1 : ab_lk lv 1 = some (.int x1)) (f2 : ab_lk lv 2 = some (.int x2)) : dc_pv 3 N ab_M_X4_readEvent 31 lv [.int s0] m (Φ (d_X4_readEvent_b31 x0 x1 x2 s0 m)) := by
  refine dc_pv.mono (dc_ok (C := C_X4_readEvent) (S := S_X4_readEvent) CO_X4_readEvent 400 31 [(0, .ref x0), (1, .int x1), (2, .int x2)] lv [.int s0] m (dc_sub_cons f0 (dc_sub_cons f1 (dc_sub_cons f2 (dc_sub_nil)))) ?_) (Nat.le_succ N)
  unfold d_X4_readEvent_b31
  refine dg_L (pc' := 32) [(3, .int s0), (0, .ref x0), (1, .int x1), (2, .int x2)] [] rfl (fun _ => rfl) rfl ?_
  refine dg_s (pc' := 33) [.int s0] rfl (fun _ => rfl) rfl ?_
  refine dw_if (fun t => Φ t) (0 ≤ (Int32.toInt s0)) [] 58 36 rfl (fun _ => rfl) (fun c0 => ?_) (fun c0 => ?_)
  · refine dw_g rfl ?_
    refine dg_s (pc' := 59) [.ref x0] rfl (fun _ => rfl) rfl ?_
    refine dw_b (fun t => Φ t) (pc' := 62) (fun q1 => []) (fun q1 => q1) rfl (fun _ => rfl) (fun q1 => ?_)
    refine dw_g rfl ?_
    refine dg_s (pc' := 63) [.ref x0] rfl (fun _ => rfl) rfl ?_
    refine dg_s (pc' := 65) [.int (43 : Int32), .ref x0] rfl (fun _ => rfl) rfl ?_
    refine dg_s (pc' := 68) [.int (d_X4_isSign x0 (43 : Int32) q1)] rfl (fun _ => rfl) rfl ?_
    refine dw_if (fun t => Φ t) (¬ (Int32.toInt (d_X4_isSign x0 (43 : Int32) q1)) = 0) [] 91 71 rfl (fun _ => rfl) (fun c1 => ?_) (fun c1 => ?_)
    · exact dw_j rfl (fun lv1 hv => k_X4_readEvent_b91 (Φ := (fun t => Φ t)) x0 x1 x2 s0 q1 (fun _a _b => kR _a _b)  (hv.1 _ rfl) (hv.2.1 _ rfl) (hv.2.2.1 _ rfl) (hv.2.2.2.1 _ rfl))
    · refine dw_g rfl ?_
      refine dg_s (pc' := 72) [.ref x0] rfl (fun _ => rfl) rfl ?_
      refine dg_s (pc' := 74) [.int (45 : Int32), .ref x0] rfl (fun _ => rfl) rfl ?_
      refine dg_s (pc' := 77) [.int (d_X4_isSign x0 (45 : Int32) q1)] rfl (fun _ => rfl) rfl ?_
      refine dw_if (fun t => Φ t) (¬ (Int32.toInt (d_X4_isSign x0 (45 : Int32) q1)) = 0) [] 91 80 rfl (fun _ => rfl) (fun c2 => ?_) (fun c2 => ?_)
      · exact dw_j rfl (fun lv1 hv => k_X4_readEvent_b91 (Φ := (fun t => Φ t)) x0 x1 x2 s0 q1 (fun _a _b => kR _a _b)  (hv.1 _ rfl) (hv.2.1 _ rfl) (hv.2.2.1 _ rfl) (hv.2.2.2.1 _ rfl))
      · refine dw_g rfl ?_
        refine dg_s (pc' := 81) [.ref x0] rfl (fun _ => rfl) rfl ?_
        refine dg_s (pc' := 82) [.int (2 : Int32), .ref x0] rfl (fun _ => rfl) rfl ?_
        refine dg_s (pc' := 83) [.ref x0, .int (2 : Int32), .ref x0] rfl (fun _ => rfl) rfl ?_
        refine dg_s (pc' := 86) [.int (q1.1 x0 6), .int (2 : Int32), .ref x0] rfl (fun _ => rfl) rfl ?_
        refine dw_l (fun t => Φ t) (pc' := 89) (fun q2 => []) (fun q2 => q2) rfl (fun _ => rfl) (fun q2 => ?_)
        refine dw_g rfl ?_
        refine dg_s (pc' := 90) [.int (0 : Int32)] rfl (fun _ => rfl) rfl ?_
        exact dw_r (some (.inl (some (.int (0 : Int32)), q2))) rfl (fun _ => rfl) (kR _ _)
  · refine dw_g rfl ?_
    refine dg_s (pc' := 37) [.ref x0] rfl (fun _ => rfl) rfl ?_
    refine dg_s (pc' := 38) [.ref x0, .ref x0] rfl (fun _ => rfl) rfl ?_
    refine dg_s (pc' := 41) [.int (d_X4_isLetter x0 m), .ref x0] rfl (fun _ => rfl) rfl ?_
    refine dw_if (fun t => Φ t) ((Int32.toInt (d_X4_isLetter x0 m)) = 0) [.ref x0] 48 44 rfl (fun _ => rfl) (fun c1 => ?_) (fun c1 => ?_)
    · refine dw_g rfl ?_
      refine dg_s (pc' := 49) [.int (2 : Int32), .ref x0] rfl (fun _ => rfl) rfl ?_
      refine dg_s (pc' := 50) [.ref x0, .int (2 : Int32), .ref x0] rfl (fun _ => rfl) rfl ?_
      refine dg_s (pc' := 53) [.int (m.1 x0 6), .int (2 : Int32), .ref x0] rfl (fun _ => rfl) rfl ?_
      refine dw_l (fun t => Φ t) (pc' := 56) (fun q3 => []) (fun q3 => q3) rfl (fun _ => rfl) (fun q3 => ?_)
      refine dw_g rfl ?_
      refine dg_s (pc' := 57) [.int (0 : Int32)] rfl (fun _ => rfl) rfl ?_
      exact dw_r (some (.inl (some (.int (0 : Int32)), q3))) rfl (fun _ => rfl) (kR _ _)
    · refine dw_g rfl ?_
      refine dg_s (pc' := 45) [.int (4 : Int32), .ref x0] rfl (fun _ => rfl) rfl ?_
      refine dg_s (pc' := 49) [.int (4 : Int32), .ref x0] rfl (fun _ => rfl) rfl ?_
      refine dg_s (pc' := 50) [.ref x0, .int (4 : Int32), .ref x0] rfl (fun _ => rfl) rfl ?_
      refine dg_s (pc' := 53) [.int (m.1 x0 6), .int (4 : Int32), .ref x0] rfl (fun _ => rfl) rfl ?_
      refine dw_l (fun t => Φ t) (pc' := 56) (fun q4 => []) (fun q4 => q4) rfl (fun _ => rfl) (fun q4 => ?_)
      refine dw_g rfl ?_
      refine dg_s (pc' := 57) [.int (0 : Int32)] rfl (fun _ => rfl) rfl ?_
      exact dw_r (some (.inl (some (.int (0 : Int32)), q4))) rfl (fun _ => rfl) (kR _ _)
noncomputable def d_X4_readEvent (x0 : Nat) (x1 : Int32) (m : dc_M) : Option (Int32 × dc_M) :=
  (if (Int32.toInt (d_X4_isLetter x0 m)) = 0 then (d_X4_readEvent_b31 x0 x1 (m.1 x0 6) (-4 : Int32) m) else ((d_X3_wireCalled (m.2.2.1 x0 8) ((m.1 x0 7) - (97 : Int32)) m).bind (fun q1 => (d_X4_readEvent_b31 x0 x1 (m.1 x0 6) q1 m))))
set_option maxHeartbeats 8000000 in
theorem k_X4_readEvent {N : Nat} {Φ : (Option (Int32 × dc_M)) → Option Value → dc_M → Prop} (x0 : Nat) (x1 : Int32) (m : dc_M) (kR : ∀ (v : Int32) (m : dc_M), Φ (some ((v, m))) (some (.int v)) m)  {lv : ab_L} (f0 : ab_lk lv 0 = some (.ref x0)) (f1 : ab_lk lv 1 = some (.int x1)) : dc_pv 3 N ab_M_X4_readEvent 0 lv [] m (Φ (d_X4_readEvent x0 x1 m)) := by
  refine dc_pv.mono (dc_ok (C := C_X4_readEvent) (S := S_X4_readEvent) CO_X4_readEvent 400 0 [(0, .ref x0), (1, .int x1)] lv [] m (dc_sub_cons f0 (dc_sub_cons f1 (dc_sub_nil))) ?_) (Nat.le_succ N)
  unfold d_X4_readEvent
  refine dg_s (pc' := 1) [.ref x0] rfl (fun _ => rfl) rfl ?_
  refine dg_s (pc' := 4) [.int (m.1 x0 6)] rfl (fun _ => rfl) rfl ?_
  refine dg_L (pc' := 5) [(2, .int (m.1 x0 6)), (0, .ref x0), (1, .int x1)] [] rfl (fun _ => rfl) rfl ?_
  refine dg_s (pc' := 6) [.ref x0] rfl (fun _ => rfl) rfl ?_
  refine dg_s (pc' := 9) [.int (d_X4_isLetter x0 m)] rfl (fun _ => rfl) rfl ?_
  refine dw_if (fun t => Φ t) ((Int32.toInt (d_X4_isLetter x0 m)) = 0) [] 29 12 rfl (fun _ => rfl) (fun c0 => ?_) (fun c0 => ?_)
  · refine dw_g rfl ?_
    refine dw_s (pc' := 31) [.int (-4 : Int32)] rfl (fun _ => rfl) ?_
    exact dw_j rfl (fun lv1 hv => k_X4_readEvent_b31 (Φ := (fun t => Φ t)) x0 x1 (m.1 x0 6) (-4 : Int32) m (fun _a _b => kR _a _b)  (hv.1 _ rfl) (hv.2.1 _ rfl) (hv.2.2.1 _ rfl))
  · refine dw_g rfl ?_
    refine dg_s (pc' := 13) [.ref x0] rfl (fun _ => rfl) rfl ?_
    refine dg_s (pc' := 16) [.ref (m.2.2.1 x0 8)] rfl (fun _ => rfl) rfl ?_
    refine dg_s (pc' := 17) [.ref x0, .ref (m.2.2.1 x0 8)] rfl (fun _ => rfl) rfl ?_
    refine dg_s (pc' := 20) [.int (m.1 x0 7), .ref (m.2.2.1 x0 8)] rfl (fun _ => rfl) rfl ?_
    refine dg_s (pc' := 22) [.int (97 : Int32), .int (m.1 x0 7), .ref (m.2.2.1 x0 8)] rfl (fun _ => rfl) rfl ?_
    refine dg_s (pc' := 23) [.int ((m.1 x0 7) - (97 : Int32)), .ref (m.2.2.1 x0 8)] rfl (fun _ => rfl) rfl ?_
    refine dw_b (fun t => Φ t) (pc' := 26) (fun q1 => [.int q1]) (fun q1 => m) rfl (fun _ => rfl) (fun q1 => ?_)
    refine dw_g rfl ?_
    refine dw_s (pc' := 31) [.int q1] rfl (fun _ => rfl) ?_
    exact dw_j rfl (fun lv1 hv => k_X4_readEvent_b31 (Φ := (fun t => Φ t)) x0 x1 (m.1 x0 6) q1 m (fun _a _b => kR _a _b)  (hv.1 _ rfl) (hv.2.1 _ rfl) (hv.2.2.1 _ rfl))
noncomputable def H_X4_readEvent : dc_H := fun As m k => match As with
  | [.ref x0, .int x1] => (d_X4_readEvent x0 x1 m).bind (fun q => k (some (.int q.1)) q.2)
  | _ => dc_kz
theorem H_X4_readEvent_ok : dc_cok 3 51 H_X4_readEvent := fun M' hG N As m k P hz hP => by
  obtain rfl : ab_M_X4_readEvent = M' := Option.some.inj hG
  unfold H_X4_readEvent at hP
  split at hP
  · rename_i x0 x1
    exact dc_pv.imp (k_X4_readEvent (Φ := fun (t : Option (Int32 × dc_M)) r m' => P (t.bind (fun q => k (some (.int q.1)) q.2)) → P (k r m')) x0 x1 m (fun _ _ h => h) rfl rfl) (fun r m' h => h hP)
  · exact absurd hP hz
noncomputable def C_X4_takeSign : List (Nat × dc_H) := [(58, H_X4_isSign), (56, H_X4_refuse), (55, H_X4_take)]
theorem CO_X4_takeSign {u : Nat} : dc_CO u C_X4_takeSign := dc_CO_cons H_X4_isSign_ok (dc_CO_cons H_X4_refuse_ok (dc_CO_cons H_X4_take_ok (dc_CO_nil)))
def S_X4_takeSign : List (Nat × List Nat) := []
noncomputable def d_X4_takeSign (x0 : Nat) (x1 : Int32) (m : dc_M) : Option dc_M :=
  (if (Int32.toInt (d_X4_isSign x0 x1 m)) = 0 then (dc_let (d_X4_refuse x0 (2 : Int32) (m.1 x0 6) m) (fun q1 => some (q1))) else ((d_X4_take x0 m).bind (fun q2 => some (q2))))
set_option maxHeartbeats 8000000 in
theorem k_X4_takeSign {u : Nat} {N : Nat} {Φ : (Option dc_M) → Option Value → dc_M → Prop} (x0 : Nat) (x1 : Int32) (m : dc_M) (kR : ∀  (m : dc_M), Φ (some (m)) (none) m)  {lv : ab_L} (f0 : ab_lk lv 0 = some (.ref x0)) (f1 : ab_lk lv 1 = some (.int x1)) : dc_pv u N ab_M_X4_takeSign 0 lv [] m (Φ (d_X4_takeSign x0 x1 m)) := by
  refine dc_pv.mono (dc_ok (C := C_X4_takeSign) (S := S_X4_takeSign) CO_X4_takeSign 400 0 [(0, .ref x0), (1, .int x1)] lv [] m (dc_sub_cons f0 (dc_sub_cons f1 (dc_sub_nil))) ?_) (Nat.le_succ N)
  unfold d_X4_takeSign
  refine dg_s (pc' := 1) [.ref x0] rfl (fun _ => rfl) rfl ?_
  refine dg_s (pc' := 2) [.int x1, .ref x0] rfl (fun _ => rfl) rfl ?_
  refine dg_s (pc' := 5) [.int (d_X4_isSign x0 x1 m)] rfl (fun _ => rfl) rfl ?_
  refine dw_if (fun t => Φ t) ((Int32.toInt (d_X4_isSign x0 x1 m)) = 0) [] 15 8 rfl (fun _ => rfl) (fun c0 => ?_) (fun c0 => ?_)
  · refine dw_g rfl ?_
    refine dg_s (pc' := 16) [.ref x0] rfl (fun _ => rfl) rfl ?_
    refine dg_s (pc' := 17) [.int (2 : Int32), .ref x0] rfl (fun _ => rfl) rfl ?_
    refine dg_s (pc' := 18) [.ref x0, .int (2 : Int32), .ref x0] rfl (fun _ => rfl) rfl ?_
    refine dg_s (pc' := 21) [.int (m.1 x0 6), .int (2 : Int32), .ref x0] rfl (fun _ => rfl) rfl ?_
    refine dw_l (fun t => Φ t) (pc' := 24) (fun q1 => []) (fun q1 => q1) rfl (fun _ => rfl) (fun q1 => ?_)
    refine dw_g rfl ?_
    exact dw_r (some (.inl (none, q1))) rfl (fun _ => rfl) (kR _)
  · refine dw_g rfl ?_
    refine dg_s (pc' := 9) [.ref x0] rfl (fun _ => rfl) rfl ?_
    refine dw_b (fun t => Φ t) (pc' := 12) (fun q2 => []) (fun q2 => q2) rfl (fun _ => rfl) (fun q2 => ?_)
    refine dw_g rfl ?_
    refine dg_s (pc' := 24) [] rfl (fun _ => rfl) rfl ?_
    exact dw_r (some (.inl (none, q2))) rfl (fun _ => rfl) (kR _)
noncomputable def H_X4_takeSign : dc_H := fun As m k => match As with
  | [.ref x0, .int x1] => (d_X4_takeSign x0 x1 m).bind (fun q => k (none) q)
  | _ => dc_kz
theorem H_X4_takeSign_ok {u : Nat} : dc_cok u 54 H_X4_takeSign := fun M' hG N As m k P hz hP => by
  obtain rfl : ab_M_X4_takeSign = M' := Option.some.inj hG
  unfold H_X4_takeSign at hP
  split at hP
  · rename_i x0 x1
    exact dc_pv.imp (k_X4_takeSign (Φ := fun (t : Option dc_M) r m' => P (t.bind (fun q => k (none) q)) → P (k r m')) x0 x1 m (fun _ h => h) rfl rfl) (fun r m' h => h hP)
  · exact absurd hP hz
noncomputable def C_X4_readPlace : List (Nat × dc_H) := [(35, H_X3_addPlace), (57, H_X4_isLetter), (51, H_X4_readEvent), (56, H_X4_refuse), (55, H_X4_take), (54, H_X4_takeSign)]
theorem CO_X4_readPlace : dc_CO 3 C_X4_readPlace := dc_CO_cons H_X3_addPlace_ok (dc_CO_cons H_X4_isLetter_ok (dc_CO_cons H_X4_readEvent_ok (dc_CO_cons H_X4_refuse_ok (dc_CO_cons H_X4_take_ok (dc_CO_cons H_X4_takeSign_ok (dc_CO_nil))))))
def S_X4_readPlace : List (Nat × List Nat) := [(31, [0, 1, 2]), (58, [0, 1]), (72, [0, 1, 2, 3]), (99, [0, 1, 2])]
noncomputable def d_X4_readPlace_b99 (x0 : Nat) (x1 : Int32) (x2 : Int32) (m : dc_M) : Option dc_M :=
  (if (Int32.toInt (m.1 x0 5)) = 2 then (if (Int32.toInt ((m.1 x0 7) - (48 : Int32))) ≤ 1 then ((d_X4_take x0 m).bind (fun q1 => ((d_X4_takeSign x0 (59 : Int32) q1).bind (fun q2 => ((d_X3_addPlace (q2.2.2.1 x0 8) x1 x2 ((m.1 x0 7) - (48 : Int32)) q2).bind (fun q3 => some (q3))))))) else (dc_let (d_X4_refuse x0 (3 : Int32) (m.1 x0 6) m) (fun q4 => some (q4)))) else (dc_let (d_X4_refuse x0 (2 : Int32) (m.1 x0 6) m) (fun q5 => some (q5))))
set_option maxHeartbeats 8000000 in
theorem k_X4_readPlace_b99 {N : Nat} {Φ : (Option dc_M) → Option Value → dc_M → Prop} (x0 : Nat) (x1 : Int32) (x2 : Int32) (m : dc_M) (kR : ∀  (m : dc_M), Φ (some (m)) (none) m)  {lv : ab_L} (f0 : ab_lk lv 0 = some (.ref x0)) (f1 : ab_lk lv 1 = some (.int x1)) (f2 : ab_lk lv 2 = some (.int x2)) : dc_pv 3 N ab_M_X4_readPlace 99 lv [] m (Φ (d_X4_readPlace_b99 x0 x1 x2 m)) := by
  refine dc_pv.mono (dc_ok (C := C_X4_readPlace) (S := S_X4_readPlace) CO_X4_readPlace 400 99 [(0, .ref x0), (1, .int x1), (2, .int x2)] lv [] m (dc_sub_cons f0 (dc_sub_cons f1 (dc_sub_cons f2 (dc_sub_nil)))) ?_) (Nat.le_succ N)
  unfold d_X4_readPlace_b99
  refine dg_s (pc' := 100) [.ref x0] rfl (fun _ => rfl) rfl ?_
  refine dg_s (pc' := 103) [.int (m.1 x0 7)] rfl (fun _ => rfl) rfl ?_
  refine dg_s (pc' := 105) [.int (48 : Int32), .int (m.1 x0 7)] rfl (fun _ => rfl) rfl ?_
  refine dg_s (pc' := 106) [.int ((m.1 x0 7) - (48 : Int32))] rfl (fun _ => rfl) rfl ?_
  refine dg_L (pc' := 107) [(3, .int ((m.1 x0 7) - (48 : Int32))), (0, .ref x0), (1, .int x1), (2, .int x2)] [] rfl (fun _ => rfl) rfl ?_
  refine dg_s (pc' := 108) [.ref x0] rfl (fun _ => rfl) rfl ?_
  refine dg_s (pc' := 111) [.int (m.1 x0 5)] rfl (fun _ => rfl) rfl ?_
  refine dg_s (pc' := 112) [.int (2 : Int32), .int (m.1 x0 5)] rfl (fun _ => rfl) rfl ?_
  refine dw_if (fun t => Φ t) ((Int32.toInt (m.1 x0 5)) = 2) [] 127 115 rfl (fun _ => rfl) (fun c0 => ?_) (fun c0 => ?_)
  · refine dw_g rfl ?_
    refine dg_s (pc' := 128) [.int ((m.1 x0 7) - (48 : Int32))] rfl (fun _ => rfl) rfl ?_
    refine dg_s (pc' := 129) [.int (1 : Int32), .int ((m.1 x0 7) - (48 : Int32))] rfl (fun _ => rfl) rfl ?_
    refine dw_if (fun t => Φ t) ((Int32.toInt ((m.1 x0 7) - (48 : Int32))) ≤ 1) [] 144 132 rfl (fun _ => rfl) (fun c1 => ?_) (fun c1 => ?_)
    · refine dw_g rfl ?_
      refine dg_s (pc' := 145) [.ref x0] rfl (fun _ => rfl) rfl ?_
      refine dw_b (fun t => Φ t) (pc' := 148) (fun q1 => []) (fun q1 => q1) rfl (fun _ => rfl) (fun q1 => ?_)
      refine dw_g rfl ?_
      refine dg_s (pc' := 149) [.ref x0] rfl (fun _ => rfl) rfl ?_
      refine dg_s (pc' := 151) [.int (59 : Int32), .ref x0] rfl (fun _ => rfl) rfl ?_
      refine dw_b (fun t => Φ t) (pc' := 154) (fun q2 => []) (fun q2 => q2) rfl (fun _ => rfl) (fun q2 => ?_)
      refine dw_g rfl ?_
      refine dg_s (pc' := 155) [.ref x0] rfl (fun _ => rfl) rfl ?_
      refine dg_s (pc' := 158) [.ref (q2.2.2.1 x0 8)] rfl (fun _ => rfl) rfl ?_
      refine dg_s (pc' := 159) [.int x1, .ref (q2.2.2.1 x0 8)] rfl (fun _ => rfl) rfl ?_
      refine dg_s (pc' := 160) [.int x2, .int x1, .ref (q2.2.2.1 x0 8)] rfl (fun _ => rfl) rfl ?_
      refine dg_s (pc' := 161) [.int ((m.1 x0 7) - (48 : Int32)), .int x2, .int x1, .ref (q2.2.2.1 x0 8)] rfl (fun _ => rfl) rfl ?_
      refine dw_b (fun t => Φ t) (pc' := 164) (fun q3 => []) (fun q3 => q3) rfl (fun _ => rfl) (fun q3 => ?_)
      refine dw_g rfl ?_
      exact dw_r (some (.inl (none, q3))) rfl (fun _ => rfl) (kR _)
    · refine dw_g rfl ?_
      refine dg_s (pc' := 133) [.ref x0] rfl (fun _ => rfl) rfl ?_
      refine dg_s (pc' := 134) [.int (3 : Int32), .ref x0] rfl (fun _ => rfl) rfl ?_
      refine dg_s (pc' := 135) [.ref x0, .int (3 : Int32), .ref x0] rfl (fun _ => rfl) rfl ?_
      refine dg_s (pc' := 138) [.int (m.1 x0 6), .int (3 : Int32), .ref x0] rfl (fun _ => rfl) rfl ?_
      refine dw_l (fun t => Φ t) (pc' := 141) (fun q4 => []) (fun q4 => q4) rfl (fun _ => rfl) (fun q4 => ?_)
      refine dw_g rfl ?_
      refine dg_s (pc' := 164) [] rfl (fun _ => rfl) rfl ?_
      exact dw_r (some (.inl (none, q4))) rfl (fun _ => rfl) (kR _)
  · refine dw_g rfl ?_
    refine dg_s (pc' := 116) [.ref x0] rfl (fun _ => rfl) rfl ?_
    refine dg_s (pc' := 117) [.int (2 : Int32), .ref x0] rfl (fun _ => rfl) rfl ?_
    refine dg_s (pc' := 118) [.ref x0, .int (2 : Int32), .ref x0] rfl (fun _ => rfl) rfl ?_
    refine dg_s (pc' := 121) [.int (m.1 x0 6), .int (2 : Int32), .ref x0] rfl (fun _ => rfl) rfl ?_
    refine dw_l (fun t => Φ t) (pc' := 124) (fun q5 => []) (fun q5 => q5) rfl (fun _ => rfl) (fun q5 => ?_)
    refine dw_g rfl ?_
    refine dg_s (pc' := 164) [] rfl (fun _ => rfl) rfl ?_
    exact dw_r (some (.inl (none, q5))) rfl (fun _ => rfl) (kR _)
noncomputable def d_X4_readPlace_l72b (x0 : Nat) (x1 : Int32) (x2 : Int32) (x3 : Int32) (m : dc_M) : Option ((Int32 × Int32 × dc_M) ⊕ dc_M) :=
  (if 16 ≤ (Int32.toInt x3) then ((d_X4_readPlace_b99 x0 x1 x2 m).map (fun z => Sum.inr (z))) else (if (Int32.toInt (d_X4_isLetter x0 m)) = 0 then ((d_X4_readPlace_b99 x0 x1 x2 m).map (fun z => Sum.inr (z))) else ((d_X4_readEvent x0 x2 m).bind (fun q1 => some (Sum.inl ((x2 ||| q1.1), (x3 + (1 : Int32)), q1.2))))))
noncomputable def d_X4_readPlace_l72s (x0 : Nat) (x1 : Int32) : (Int32 × Int32 × dc_M) → Option ((Int32 × Int32 × dc_M) ⊕ dc_M) := fun s => d_X4_readPlace_l72b x0 x1 s.1 s.2.1 s.2.2
noncomputable def d_X4_readPlace_l72 (x0 : Nat) (x1 : Int32) (x2 : Int32) (x3 : Int32) (m : dc_M) : Option dc_M := dc_lp (d_X4_readPlace_l72s x0 x1) (x2, x3, m)
set_option maxHeartbeats 8000000 in
theorem k_X4_readPlace_l72 {Φ : (Option dc_M) → Option Value → dc_M → Prop} (x0 : Nat) (x1 : Int32) (kR : ∀  (m : dc_M), Φ (some (m)) (none) m) : ∀ (N : Nat), ∀ (x2 : Int32) (x3 : Int32) (m : dc_M) (lv : ab_L), ab_lk lv 0 = some (.ref x0) → ab_lk lv 1 = some (.int x1) → ab_lk lv 2 = some (.int x2) → ab_lk lv 3 = some (.int x3) → dc_pv 3 N ab_M_X4_readPlace 72 lv [] m (Φ (d_X4_readPlace_l72 x0 x1 x2 x3 m)) := by
  intro N
  induction N with
  | zero => intros; exact dc_pv_zero
  | succ N ih =>
    intro x2 x3 m lv f0 f1 f2 f3
    refine dc_ok (C := C_X4_readPlace) (S := S_X4_readPlace) CO_X4_readPlace 400 72 [(0, .ref x0), (1, .int x1), (2, .int x2), (3, .int x3)] lv [] m (dc_sub_cons f0 (dc_sub_cons f1 (dc_sub_cons f2 (dc_sub_cons f3 (dc_sub_nil))))) ?_
    unfold d_X4_readPlace_l72
    rw [dc_lp_eq]
    show (fun t x => dc_lf 3 N ab_M_X4_readPlace (Φ (Option.bind t (dc_bk (d_X4_readPlace_l72s x0 x1)))) x) (d_X4_readPlace_l72b x0 x1 x2 x3 m) _
    dsimp only
    unfold d_X4_readPlace_l72b
    refine dg_s (pc' := 73) [.int x3] rfl (fun _ => rfl) rfl ?_
    refine dg_s (pc' := 75) [.int (16 : Int32), .int x3] rfl (fun _ => rfl) rfl ?_
    refine dw_if (fun t => Φ (Option.bind t (dc_bk (d_X4_readPlace_l72s x0 x1)))) (16 ≤ (Int32.toInt x3)) [] 99 78 rfl (fun _ => rfl) (fun c0 => ?_) (fun c0 => ?_)
    · exact dw_j rfl (fun lv1 hv => k_X4_readPlace_b99 (Φ := (fun t => Φ (Option.bind (t.map (fun z => Sum.inr (z))) (dc_bk (d_X4_readPlace_l72s x0 x1))))) x0 x1 x2 m (fun _b => kR _b)  (hv.1 _ rfl) (hv.2.1 _ rfl) (hv.2.2.1 _ rfl))
    · refine dw_g rfl ?_
      refine dg_s (pc' := 79) [.ref x0] rfl (fun _ => rfl) rfl ?_
      refine dg_s (pc' := 82) [.int (d_X4_isLetter x0 m)] rfl (fun _ => rfl) rfl ?_
      refine dw_if (fun t => Φ (Option.bind t (dc_bk (d_X4_readPlace_l72s x0 x1)))) ((Int32.toInt (d_X4_isLetter x0 m)) = 0) [] 99 85 rfl (fun _ => rfl) (fun c1 => ?_) (fun c1 => ?_)
      · exact dw_j rfl (fun lv1 hv => k_X4_readPlace_b99 (Φ := (fun t => Φ (Option.bind (t.map (fun z => Sum.inr (z))) (dc_bk (d_X4_readPlace_l72s x0 x1))))) x0 x1 x2 m (fun _b => kR _b)  (hv.1 _ rfl) (hv.2.1 _ rfl) (hv.2.2.1 _ rfl))
      · refine dw_g rfl ?_
        refine dg_s (pc' := 86) [.int x2] rfl (fun _ => rfl) rfl ?_
        refine dg_s (pc' := 87) [.ref x0, .int x2] rfl (fun _ => rfl) rfl ?_
        refine dg_s (pc' := 88) [.int x2, .ref x0, .int x2] rfl (fun _ => rfl) rfl ?_
        refine dw_b (fun t => Φ (Option.bind t (dc_bk (d_X4_readPlace_l72s x0 x1)))) (pc' := 91) (fun q1 => [.int q1.1, .int x2]) (fun q1 => q1.2) rfl (fun _ => rfl) (fun q1 => ?_)
        refine dw_g rfl ?_
        refine dg_s (pc' := 92) [.int (x2 ||| q1.1)] rfl (fun _ => rfl) rfl ?_
        refine dg_L (pc' := 93) [(2, .int (x2 ||| q1.1)), (0, .ref x0), (1, .int x1), (3, .int x3)] [] rfl (fun _ => rfl) rfl ?_
        refine dg_L (pc' := 96) [(3, .int (x3 + (1 : Int32))), (2, .int (x2 ||| q1.1)), (0, .ref x0), (1, .int x1)] [] rfl (fun _ => rfl) rfl ?_
        refine dw_s (pc' := 72) [] rfl (fun _ => rfl) ?_
        exact dw_j rfl (fun lv1 hv => ih (x2 ||| q1.1) (x3 + (1 : Int32)) q1.2 lv1 (hv.1 _ rfl) (hv.2.1 _ rfl) (hv.2.2.1 _ rfl) (hv.2.2.2.1 _ rfl))
noncomputable def d_X4_readPlace_b58 (x0 : Nat) (x1 : Int32) (m : dc_M) : Option dc_M :=
  ((d_X4_takeSign x0 (62 : Int32) m).bind (fun q1 => ((d_X4_readEvent x0 (0 : Int32) q1).bind (fun q2 => (d_X4_readPlace_l72 x0 x1 q2.1 (0 : Int32) q2.2)))))
set_option maxHeartbeats 8000000 in
theorem k_X4_readPlace_b58 {N : Nat} {Φ : (Option dc_M) → Option Value → dc_M → Prop} (x0 : Nat) (x1 : Int32) (m : dc_M) (kR : ∀  (m : dc_M), Φ (some (m)) (none) m)  {lv : ab_L} (f0 : ab_lk lv 0 = some (.ref x0)) (f1 : ab_lk lv 1 = some (.int x1)) : dc_pv 3 N ab_M_X4_readPlace 58 lv [] m (Φ (d_X4_readPlace_b58 x0 x1 m)) := by
  refine dc_pv.mono (dc_ok (C := C_X4_readPlace) (S := S_X4_readPlace) CO_X4_readPlace 400 58 [(0, .ref x0), (1, .int x1)] lv [] m (dc_sub_cons f0 (dc_sub_cons f1 (dc_sub_nil))) ?_) (Nat.le_succ N)
  unfold d_X4_readPlace_b58
  refine dg_s (pc' := 59) [.ref x0] rfl (fun _ => rfl) rfl ?_
  refine dg_s (pc' := 61) [.int (62 : Int32), .ref x0] rfl (fun _ => rfl) rfl ?_
  refine dw_b (fun t => Φ t) (pc' := 64) (fun q1 => []) (fun q1 => q1) rfl (fun _ => rfl) (fun q1 => ?_)
  refine dw_g rfl ?_
  refine dg_s (pc' := 65) [.ref x0] rfl (fun _ => rfl) rfl ?_
  refine dg_s (pc' := 66) [.int (0 : Int32), .ref x0] rfl (fun _ => rfl) rfl ?_
  refine dw_b (fun t => Φ t) (pc' := 69) (fun q2 => [.int q2.1]) (fun q2 => q2.2) rfl (fun _ => rfl) (fun q2 => ?_)
  refine dw_g rfl ?_
  refine dg_L (pc' := 70) [(2, .int q2.1), (0, .ref x0), (1, .int x1)] [] rfl (fun _ => rfl) rfl ?_
  refine dg_s (pc' := 71) [.int (0 : Int32)] rfl (fun _ => rfl) rfl ?_
  refine dw_L (pc' := 72) [(3, .int (0 : Int32)), (2, .int q2.1), (0, .ref x0), (1, .int x1)] [] rfl (fun _ => rfl) ?_
  exact dw_j rfl (fun lv1 hv => k_X4_readPlace_l72 (Φ := (fun t => Φ t)) x0 x1 (fun _b => kR _b) N  q2.1 (0 : Int32) q2.2 lv1 (hv.1 _ rfl) (hv.2.1 _ rfl) (hv.2.2.1 _ rfl) (hv.2.2.2.1 _ rfl))
noncomputable def d_X4_readPlace_l31b (x0 : Nat) (x1 : Int32) (x2 : Int32) (m : dc_M) : Option ((Int32 × Int32 × dc_M) ⊕ dc_M) :=
  (if 16 < (Int32.toInt x2) then ((d_X4_readPlace_b58 x0 x1 m).map (fun z => Sum.inr (z))) else (if (Int32.toInt (d_X4_isLetter x0 m)) = 0 then ((d_X4_readPlace_b58 x0 x1 m).map (fun z => Sum.inr (z))) else ((d_X4_readEvent x0 x1 m).bind (fun q1 => some (Sum.inl ((x1 ||| q1.1), (x2 + (1 : Int32)), q1.2))))))
noncomputable def d_X4_readPlace_l31s (x0 : Nat) : (Int32 × Int32 × dc_M) → Option ((Int32 × Int32 × dc_M) ⊕ dc_M) := fun s => d_X4_readPlace_l31b x0 s.1 s.2.1 s.2.2
noncomputable def d_X4_readPlace_l31 (x0 : Nat) (x1 : Int32) (x2 : Int32) (m : dc_M) : Option dc_M := dc_lp (d_X4_readPlace_l31s x0) (x1, x2, m)
set_option maxHeartbeats 8000000 in
theorem k_X4_readPlace_l31 {Φ : (Option dc_M) → Option Value → dc_M → Prop} (x0 : Nat) (kR : ∀  (m : dc_M), Φ (some (m)) (none) m) : ∀ (N : Nat), ∀ (x1 : Int32) (x2 : Int32) (m : dc_M) (lv : ab_L), ab_lk lv 0 = some (.ref x0) → ab_lk lv 1 = some (.int x1) → ab_lk lv 2 = some (.int x2) → dc_pv 3 N ab_M_X4_readPlace 31 lv [] m (Φ (d_X4_readPlace_l31 x0 x1 x2 m)) := by
  intro N
  induction N with
  | zero => intros; exact dc_pv_zero
  | succ N ih =>
    intro x1 x2 m lv f0 f1 f2
    refine dc_ok (C := C_X4_readPlace) (S := S_X4_readPlace) CO_X4_readPlace 400 31 [(0, .ref x0), (1, .int x1), (2, .int x2)] lv [] m (dc_sub_cons f0 (dc_sub_cons f1 (dc_sub_cons f2 (dc_sub_nil)))) ?_
    unfold d_X4_readPlace_l31
    rw [dc_lp_eq]
    show (fun t x => dc_lf 3 N ab_M_X4_readPlace (Φ (Option.bind t (dc_bk (d_X4_readPlace_l31s x0)))) x) (d_X4_readPlace_l31b x0 x1 x2 m) _
    dsimp only
    unfold d_X4_readPlace_l31b
    refine dg_s (pc' := 32) [.int x2] rfl (fun _ => rfl) rfl ?_
    refine dg_s (pc' := 34) [.int (16 : Int32), .int x2] rfl (fun _ => rfl) rfl ?_
    refine dw_if (fun t => Φ (Option.bind t (dc_bk (d_X4_readPlace_l31s x0)))) (16 < (Int32.toInt x2)) [] 58 37 rfl (fun _ => rfl) (fun c0 => ?_) (fun c0 => ?_)
    · exact dw_j rfl (fun lv1 hv => k_X4_readPlace_b58 (Φ := (fun t => Φ (Option.bind (t.map (fun z => Sum.inr (z))) (dc_bk (d_X4_readPlace_l31s x0))))) x0 x1 m (fun _b => kR _b)  (hv.1 _ rfl) (hv.2.1 _ rfl))
    · refine dw_g rfl ?_
      refine dg_s (pc' := 38) [.ref x0] rfl (fun _ => rfl) rfl ?_
      refine dg_s (pc' := 41) [.int (d_X4_isLetter x0 m)] rfl (fun _ => rfl) rfl ?_
      refine dw_if (fun t => Φ (Option.bind t (dc_bk (d_X4_readPlace_l31s x0)))) ((Int32.toInt (d_X4_isLetter x0 m)) = 0) [] 58 44 rfl (fun _ => rfl) (fun c1 => ?_) (fun c1 => ?_)
      · exact dw_j rfl (fun lv1 hv => k_X4_readPlace_b58 (Φ := (fun t => Φ (Option.bind (t.map (fun z => Sum.inr (z))) (dc_bk (d_X4_readPlace_l31s x0))))) x0 x1 m (fun _b => kR _b)  (hv.1 _ rfl) (hv.2.1 _ rfl))
      · refine dw_g rfl ?_
        refine dg_s (pc' := 45) [.int x1] rfl (fun _ => rfl) rfl ?_
        refine dg_s (pc' := 46) [.ref x0, .int x1] rfl (fun _ => rfl) rfl ?_
        refine dg_s (pc' := 47) [.int x1, .ref x0, .int x1] rfl (fun _ => rfl) rfl ?_
        refine dw_b (fun t => Φ (Option.bind t (dc_bk (d_X4_readPlace_l31s x0)))) (pc' := 50) (fun q1 => [.int q1.1, .int x1]) (fun q1 => q1.2) rfl (fun _ => rfl) (fun q1 => ?_)
        refine dw_g rfl ?_
        refine dg_s (pc' := 51) [.int (x1 ||| q1.1)] rfl (fun _ => rfl) rfl ?_
        refine dg_L (pc' := 52) [(1, .int (x1 ||| q1.1)), (0, .ref x0), (2, .int x2)] [] rfl (fun _ => rfl) rfl ?_
        refine dg_L (pc' := 55) [(2, .int (x2 + (1 : Int32))), (1, .int (x1 ||| q1.1)), (0, .ref x0)] [] rfl (fun _ => rfl) rfl ?_
        refine dw_s (pc' := 31) [] rfl (fun _ => rfl) ?_
        exact dw_j rfl (fun lv1 hv => ih (x1 ||| q1.1) (x2 + (1 : Int32)) q1.2 lv1 (hv.1 _ rfl) (hv.2.1 _ rfl) (hv.2.2.1 _ rfl))
noncomputable def d_X4_readPlace (x0 : Nat) (m : dc_M) : Option dc_M :=
  (if (Int32.toInt (m.1 (m.2.2.1 x0 8) 2)) < 20 then ((d_X4_take x0 m).bind (fun q1 => (d_X4_readPlace_l31 x0 (0 : Int32) (0 : Int32) q1))) else (dc_let (d_X4_refuse x0 (6 : Int32) (m.1 x0 6) m) (fun q2 => some (q2))))
set_option maxHeartbeats 8000000 in
theorem k_X4_readPlace {N : Nat} {Φ : (Option dc_M) → Option Value → dc_M → Prop} (x0 : Nat) (m : dc_M) (kR : ∀  (m : dc_M), Φ (some (m)) (none) m)  {lv : ab_L} (f0 : ab_lk lv 0 = some (.ref x0)) : dc_pv 3 N ab_M_X4_readPlace 0 lv [] m (Φ (d_X4_readPlace x0 m)) := by
  refine dc_pv.mono (dc_ok (C := C_X4_readPlace) (S := S_X4_readPlace) CO_X4_readPlace 400 0 [(0, .ref x0)] lv [] m (dc_sub_cons f0 (dc_sub_nil)) ?_) (Nat.le_succ N)
  unfold d_X4_readPlace
  refine dg_s (pc' := 1) [.ref x0] rfl (fun _ => rfl) rfl ?_
  refine dg_s (pc' := 4) [.ref (m.2.2.1 x0 8)] rfl (fun _ => rfl) rfl ?_
  refine dg_s (pc' := 7) [.int (m.1 (m.2.2.1 x0 8) 2)] rfl (fun _ => rfl) rfl ?_
  refine dg_s (pc' := 9) [.int (20 : Int32), .int (m.1 (m.2.2.1 x0 8) 2)] rfl (fun _ => rfl) rfl ?_
  refine dw_if (fun t => Φ t) ((Int32.toInt (m.1 (m.2.2.1 x0 8) 2)) < 20) [] 23 12 rfl (fun _ => rfl) (fun c0 => ?_) (fun c0 => ?_)
  · refine dw_g rfl ?_
    refine dg_s (pc' := 24) [.ref x0] rfl (fun _ => rfl) rfl ?_
    refine dw_b (fun t => Φ t) (pc' := 27) (fun q1 => []) (fun q1 => q1) rfl (fun _ => rfl) (fun q1 => ?_)
    refine dw_g rfl ?_
    refine dg_s (pc' := 28) [.int (0 : Int32)] rfl (fun _ => rfl) rfl ?_
    refine dg_L (pc' := 29) [(1, .int (0 : Int32)), (0, .ref x0)] [] rfl (fun _ => rfl) rfl ?_
    refine dg_s (pc' := 30) [.int (0 : Int32)] rfl (fun _ => rfl) rfl ?_
    refine dw_L (pc' := 31) [(2, .int (0 : Int32)), (1, .int (0 : Int32)), (0, .ref x0)] [] rfl (fun _ => rfl) ?_
    exact dw_j rfl (fun lv1 hv => k_X4_readPlace_l31 (Φ := (fun t => Φ t)) x0 (fun _b => kR _b) N  (0 : Int32) (0 : Int32) q1 lv1 (hv.1 _ rfl) (hv.2.1 _ rfl) (hv.2.2.1 _ rfl))
  · refine dw_g rfl ?_
    refine dg_s (pc' := 13) [.ref x0] rfl (fun _ => rfl) rfl ?_
    refine dg_s (pc' := 15) [.int (6 : Int32), .ref x0] rfl (fun _ => rfl) rfl ?_
    refine dg_s (pc' := 16) [.ref x0, .int (6 : Int32), .ref x0] rfl (fun _ => rfl) rfl ?_
    refine dg_s (pc' := 19) [.int (m.1 x0 6), .int (6 : Int32), .ref x0] rfl (fun _ => rfl) rfl ?_
    refine dw_l (fun t => Φ t) (pc' := 22) (fun q2 => []) (fun q2 => q2) rfl (fun _ => rfl) (fun q2 => ?_)
    refine dw_g rfl ?_
    exact dw_r (some (.inl (none, q2))) rfl (fun _ => rfl) (kR _)
noncomputable def H_X4_readPlace : dc_H := fun As m k => match As with
  | [.ref x0] => (d_X4_readPlace x0 m).bind (fun q => k (none) q)
  | _ => dc_kz
theorem H_X4_readPlace_ok : dc_cok 3 50 H_X4_readPlace := fun M' hG N As m k P hz hP => by
  obtain rfl : ab_M_X4_readPlace = M' := Option.some.inj hG
  unfold H_X4_readPlace at hP
  split at hP
  · rename_i x0
    exact dc_pv.imp (k_X4_readPlace (Φ := fun (t : Option dc_M) r m' => P (t.bind (fun q => k (none) q)) → P (k r m')) x0 m (fun _ h => h) rfl) (fun r m' h => h hP)
  · exact absurd hP hz
noncomputable def C_X4_readWire : List (Nat × dc_H) := [(33, H_X3_addWire), (31, H_X3_wireCalled), (57, H_X4_isLetter), (56, H_X4_refuse), (55, H_X4_take), (54, H_X4_takeSign)]
theorem CO_X4_readWire : dc_CO 3 C_X4_readWire := dc_CO_cons H_X3_addWire_ok (dc_CO_cons H_X3_wireCalled_ok (dc_CO_cons H_X4_isLetter_ok (dc_CO_cons H_X4_refuse_ok (dc_CO_cons H_X4_take_ok (dc_CO_cons H_X4_takeSign_ok (dc_CO_nil))))))
def S_X4_readWire : List (Nat × List Nat) := []
noncomputable def d_X4_readWire (x0 : Nat) (x1 : Int32) (m : dc_M) : Option dc_M :=
  (if (Int32.toInt (m.1 (m.2.2.1 x0 8) 0)) < 6 then ((d_X4_take x0 m).bind (fun q1 => (if ¬ (Int32.toInt (d_X4_isLetter x0 q1)) = 0 then ((d_X3_wireCalled (q1.2.2.1 x0 8) ((q1.1 x0 7) - (97 : Int32)) q1).bind (fun q2 => (if (Int32.toInt q2) < 0 then (dc_let (d_X3_addWire (q1.2.2.1 x0 8) ((q1.1 x0 7) - (97 : Int32)) x1 q1) (fun q3 => ((d_X4_take x0 q3.2).bind (fun q4 => ((d_X4_takeSign x0 (59 : Int32) q4).bind (fun q5 => some (q5))))))) else (dc_let (d_X4_refuse x0 (4 : Int32) (q1.1 x0 6) q1) (fun q6 => some (q6)))))) else (dc_let (d_X4_refuse x0 (2 : Int32) (q1.1 x0 6) q1) (fun q7 => some (q7)))))) else (dc_let (d_X4_refuse x0 (6 : Int32) (m.1 x0 6) m) (fun q8 => some (q8))))
set_option maxHeartbeats 8000000 in
theorem k_X4_readWire {N : Nat} {Φ : (Option dc_M) → Option Value → dc_M → Prop} (x0 : Nat) (x1 : Int32) (m : dc_M) (kR : ∀  (m : dc_M), Φ (some (m)) (none) m)  {lv : ab_L} (f0 : ab_lk lv 0 = some (.ref x0)) (f1 : ab_lk lv 1 = some (.int x1)) : dc_pv 3 N ab_M_X4_readWire 0 lv [] m (Φ (d_X4_readWire x0 x1 m)) := by
  refine dc_pv.mono (dc_ok (C := C_X4_readWire) (S := S_X4_readWire) CO_X4_readWire 400 0 [(0, .ref x0), (1, .int x1)] lv [] m (dc_sub_cons f0 (dc_sub_cons f1 (dc_sub_nil))) ?_) (Nat.le_succ N)
  unfold d_X4_readWire
  refine dg_s (pc' := 1) [.ref x0] rfl (fun _ => rfl) rfl ?_
  refine dg_s (pc' := 4) [.ref (m.2.2.1 x0 8)] rfl (fun _ => rfl) rfl ?_
  refine dg_s (pc' := 7) [.int (m.1 (m.2.2.1 x0 8) 0)] rfl (fun _ => rfl) rfl ?_
  refine dg_s (pc' := 9) [.int (6 : Int32), .int (m.1 (m.2.2.1 x0 8) 0)] rfl (fun _ => rfl) rfl ?_
  refine dw_if (fun t => Φ t) ((Int32.toInt (m.1 (m.2.2.1 x0 8) 0)) < 6) [] 23 12 rfl (fun _ => rfl) (fun c0 => ?_) (fun c0 => ?_)
  · refine dw_g rfl ?_
    refine dg_s (pc' := 24) [.ref x0] rfl (fun _ => rfl) rfl ?_
    refine dw_b (fun t => Φ t) (pc' := 27) (fun q1 => []) (fun q1 => q1) rfl (fun _ => rfl) (fun q1 => ?_)
    refine dw_g rfl ?_
    refine dg_s (pc' := 28) [.ref x0] rfl (fun _ => rfl) rfl ?_
    refine dg_s (pc' := 31) [.int (d_X4_isLetter x0 q1)] rfl (fun _ => rfl) rfl ?_
    refine dw_if (fun t => Φ t) (¬ (Int32.toInt (d_X4_isLetter x0 q1)) = 0) [] 46 34 rfl (fun _ => rfl) (fun c1 => ?_) (fun c1 => ?_)
    · refine dw_g rfl ?_
      refine dg_s (pc' := 47) [.ref x0] rfl (fun _ => rfl) rfl ?_
      refine dg_s (pc' := 50) [.ref (q1.2.2.1 x0 8)] rfl (fun _ => rfl) rfl ?_
      refine dg_s (pc' := 51) [.ref x0, .ref (q1.2.2.1 x0 8)] rfl (fun _ => rfl) rfl ?_
      refine dg_s (pc' := 54) [.int (q1.1 x0 7), .ref (q1.2.2.1 x0 8)] rfl (fun _ => rfl) rfl ?_
      refine dg_s (pc' := 56) [.int (97 : Int32), .int (q1.1 x0 7), .ref (q1.2.2.1 x0 8)] rfl (fun _ => rfl) rfl ?_
      refine dg_s (pc' := 57) [.int ((q1.1 x0 7) - (97 : Int32)), .ref (q1.2.2.1 x0 8)] rfl (fun _ => rfl) rfl ?_
      refine dw_b (fun t => Φ t) (pc' := 60) (fun q2 => [.int q2]) (fun q2 => q1) rfl (fun _ => rfl) (fun q2 => ?_)
      refine dw_g rfl ?_
      refine dw_if (fun t => Φ t) ((Int32.toInt q2) < 0) [] 75 63 rfl (fun _ => rfl) (fun c2 => ?_) (fun c2 => ?_)
      · refine dw_g rfl ?_
        refine dg_s (pc' := 76) [.ref x0] rfl (fun _ => rfl) rfl ?_
        refine dg_s (pc' := 79) [.ref (q1.2.2.1 x0 8)] rfl (fun _ => rfl) rfl ?_
        refine dg_s (pc' := 80) [.ref x0, .ref (q1.2.2.1 x0 8)] rfl (fun _ => rfl) rfl ?_
        refine dg_s (pc' := 83) [.int (q1.1 x0 7), .ref (q1.2.2.1 x0 8)] rfl (fun _ => rfl) rfl ?_
        refine dg_s (pc' := 85) [.int (97 : Int32), .int (q1.1 x0 7), .ref (q1.2.2.1 x0 8)] rfl (fun _ => rfl) rfl ?_
        refine dg_s (pc' := 86) [.int ((q1.1 x0 7) - (97 : Int32)), .ref (q1.2.2.1 x0 8)] rfl (fun _ => rfl) rfl ?_
        refine dg_s (pc' := 87) [.int x1, .int ((q1.1 x0 7) - (97 : Int32)), .ref (q1.2.2.1 x0 8)] rfl (fun _ => rfl) rfl ?_
        refine dw_l (fun t => Φ t) (pc' := 90) (fun q3 => [.int q3.1]) (fun q3 => q3.2) rfl (fun _ => rfl) (fun q3 => ?_)
        refine dw_g rfl ?_
        refine dg_s (pc' := 91) [] rfl (fun _ => rfl) rfl ?_
        refine dg_s (pc' := 92) [.ref x0] rfl (fun _ => rfl) rfl ?_
        refine dw_b (fun t => Φ t) (pc' := 95) (fun q4 => []) (fun q4 => q4) rfl (fun _ => rfl) (fun q4 => ?_)
        refine dw_g rfl ?_
        refine dg_s (pc' := 96) [.ref x0] rfl (fun _ => rfl) rfl ?_
        refine dg_s (pc' := 98) [.int (59 : Int32), .ref x0] rfl (fun _ => rfl) rfl ?_
        refine dw_b (fun t => Φ t) (pc' := 101) (fun q5 => []) (fun q5 => q5) rfl (fun _ => rfl) (fun q5 => ?_)
        refine dw_g rfl ?_
        exact dw_r (some (.inl (none, q5))) rfl (fun _ => rfl) (kR _)
      · refine dw_g rfl ?_
        refine dg_s (pc' := 64) [.ref x0] rfl (fun _ => rfl) rfl ?_
        refine dg_s (pc' := 65) [.int (4 : Int32), .ref x0] rfl (fun _ => rfl) rfl ?_
        refine dg_s (pc' := 66) [.ref x0, .int (4 : Int32), .ref x0] rfl (fun _ => rfl) rfl ?_
        refine dg_s (pc' := 69) [.int (q1.1 x0 6), .int (4 : Int32), .ref x0] rfl (fun _ => rfl) rfl ?_
        refine dw_l (fun t => Φ t) (pc' := 72) (fun q6 => []) (fun q6 => q6) rfl (fun _ => rfl) (fun q6 => ?_)
        refine dw_g rfl ?_
        refine dg_s (pc' := 101) [] rfl (fun _ => rfl) rfl ?_
        exact dw_r (some (.inl (none, q6))) rfl (fun _ => rfl) (kR _)
    · refine dw_g rfl ?_
      refine dg_s (pc' := 35) [.ref x0] rfl (fun _ => rfl) rfl ?_
      refine dg_s (pc' := 36) [.int (2 : Int32), .ref x0] rfl (fun _ => rfl) rfl ?_
      refine dg_s (pc' := 37) [.ref x0, .int (2 : Int32), .ref x0] rfl (fun _ => rfl) rfl ?_
      refine dg_s (pc' := 40) [.int (q1.1 x0 6), .int (2 : Int32), .ref x0] rfl (fun _ => rfl) rfl ?_
      refine dw_l (fun t => Φ t) (pc' := 43) (fun q7 => []) (fun q7 => q7) rfl (fun _ => rfl) (fun q7 => ?_)
      refine dw_g rfl ?_
      refine dg_s (pc' := 101) [] rfl (fun _ => rfl) rfl ?_
      exact dw_r (some (.inl (none, q7))) rfl (fun _ => rfl) (kR _)
  · refine dw_g rfl ?_
    refine dg_s (pc' := 13) [.ref x0] rfl (fun _ => rfl) rfl ?_
    refine dg_s (pc' := 15) [.int (6 : Int32), .ref x0] rfl (fun _ => rfl) rfl ?_
    refine dg_s (pc' := 16) [.ref x0, .int (6 : Int32), .ref x0] rfl (fun _ => rfl) rfl ?_
    refine dg_s (pc' := 19) [.int (m.1 x0 6), .int (6 : Int32), .ref x0] rfl (fun _ => rfl) rfl ?_
    refine dw_l (fun t => Φ t) (pc' := 22) (fun q8 => []) (fun q8 => q8) rfl (fun _ => rfl) (fun q8 => ?_)
    refine dw_g rfl ?_
    exact dw_r (some (.inl (none, q8))) rfl (fun _ => rfl) (kR _)
noncomputable def H_X4_readWire : dc_H := fun As m k => match As with
  | [.ref x0, .int x1] => (d_X4_readWire x0 x1 m).bind (fun q => k (none) q)
  | _ => dc_kz
theorem H_X4_readWire_ok : dc_cok 3 49 H_X4_readWire := fun M' hG N As m k P hz hP => by
  obtain rfl : ab_M_X4_readWire = M' := Option.some.inj hG
  unfold H_X4_readWire at hP
  split at hP
  · rename_i x0 x1
    exact dc_pv.imp (k_X4_readWire (Φ := fun (t : Option dc_M) r m' => P (t.bind (fun q => k (none) q)) → P (k r m')) x0 x1 m (fun _ h => h) rfl rfl) (fun r m' h => h hP)
  · exact absurd hP hz
noncomputable def C_X4_readLine : List (Nat × dc_H) := [(59, H_X4_isWord), (50, H_X4_readPlace), (49, H_X4_readWire), (56, H_X4_refuse)]
theorem CO_X4_readLine : dc_CO 3 C_X4_readLine := dc_CO_cons H_X4_isWord_ok (dc_CO_cons H_X4_readPlace_ok (dc_CO_cons H_X4_readWire_ok (dc_CO_cons H_X4_refuse_ok (dc_CO_nil))))
def S_X4_readLine : List (Nat × List Nat) := []
noncomputable def d_X4_readLine (x0 : Nat) (m : dc_M) : Option dc_M :=
  ((d_X4_isWord x0 1 m).bind (fun q1 => (if (Int32.toInt q1) = 0 then ((d_X4_isWord x0 2 m).bind (fun q2 => (if (Int32.toInt q2) = 0 then ((d_X4_isWord x0 3 m).bind (fun q3 => (if (Int32.toInt q3) = 0 then ((d_X4_isWord x0 4 m).bind (fun q4 => (if (Int32.toInt q4) = 0 then (dc_let (d_X4_refuse x0 (2 : Int32) (m.1 x0 6) m) (fun q5 => some (q5))) else ((d_X4_readPlace x0 m).bind (fun q6 => some (q6)))))) else ((d_X4_readWire x0 (2 : Int32) m).bind (fun q7 => some (q7)))))) else ((d_X4_readWire x0 (1 : Int32) m).bind (fun q8 => some (q8)))))) else ((d_X4_readWire x0 (0 : Int32) m).bind (fun q9 => some (q9))))))
set_option maxHeartbeats 8000000 in
theorem k_X4_readLine {N : Nat} {Φ : (Option dc_M) → Option Value → dc_M → Prop} (x0 : Nat) (m : dc_M) (kR : ∀  (m : dc_M), Φ (some (m)) (none) m)  {lv : ab_L} (f0 : ab_lk lv 0 = some (.ref x0)) : dc_pv 3 N ab_M_X4_readLine 0 lv [] m (Φ (d_X4_readLine x0 m)) := by
  refine dc_pv.mono (dc_ok (C := C_X4_readLine) (S := S_X4_readLine) CO_X4_readLine 400 0 [(0, .ref x0)] lv [] m (dc_sub_cons f0 (dc_sub_nil)) ?_) (Nat.le_succ N)
  unfold d_X4_readLine
  refine dg_s (pc' := 1) [.ref x0] rfl (fun _ => rfl) rfl ?_
  refine dg_s (pc' := 3) [.retAddr 1, .ref x0] rfl (fun _ => rfl) rfl ?_
  refine dw_b (fun t => Φ t) (pc' := 6) (fun q1 => [.int q1]) (fun q1 => m) rfl (fun _ => rfl) (fun q1 => ?_)
  refine dw_g rfl ?_
  refine dw_if (fun t => Φ t) ((Int32.toInt q1) = 0) [] 17 9 rfl (fun _ => rfl) (fun c0 => ?_) (fun c0 => ?_)
  · refine dw_g rfl ?_
    refine dg_s (pc' := 18) [.ref x0] rfl (fun _ => rfl) rfl ?_
    refine dg_s (pc' := 20) [.retAddr 2, .ref x0] rfl (fun _ => rfl) rfl ?_
    refine dw_b (fun t => Φ t) (pc' := 23) (fun q2 => [.int q2]) (fun q2 => m) rfl (fun _ => rfl) (fun q2 => ?_)
    refine dw_g rfl ?_
    refine dw_if (fun t => Φ t) ((Int32.toInt q2) = 0) [] 34 26 rfl (fun _ => rfl) (fun c1 => ?_) (fun c1 => ?_)
    · refine dw_g rfl ?_
      refine dg_s (pc' := 35) [.ref x0] rfl (fun _ => rfl) rfl ?_
      refine dg_s (pc' := 37) [.retAddr 3, .ref x0] rfl (fun _ => rfl) rfl ?_
      refine dw_b (fun t => Φ t) (pc' := 40) (fun q3 => [.int q3]) (fun q3 => m) rfl (fun _ => rfl) (fun q3 => ?_)
      refine dw_g rfl ?_
      refine dw_if (fun t => Φ t) ((Int32.toInt q3) = 0) [] 51 43 rfl (fun _ => rfl) (fun c2 => ?_) (fun c2 => ?_)
      · refine dw_g rfl ?_
        refine dg_s (pc' := 52) [.ref x0] rfl (fun _ => rfl) rfl ?_
        refine dg_s (pc' := 54) [.retAddr 4, .ref x0] rfl (fun _ => rfl) rfl ?_
        refine dw_b (fun t => Φ t) (pc' := 57) (fun q4 => [.int q4]) (fun q4 => m) rfl (fun _ => rfl) (fun q4 => ?_)
        refine dw_g rfl ?_
        refine dw_if (fun t => Φ t) ((Int32.toInt q4) = 0) [] 67 60 rfl (fun _ => rfl) (fun c3 => ?_) (fun c3 => ?_)
        · refine dw_g rfl ?_
          refine dg_s (pc' := 68) [.ref x0] rfl (fun _ => rfl) rfl ?_
          refine dg_s (pc' := 69) [.int (2 : Int32), .ref x0] rfl (fun _ => rfl) rfl ?_
          refine dg_s (pc' := 70) [.ref x0, .int (2 : Int32), .ref x0] rfl (fun _ => rfl) rfl ?_
          refine dg_s (pc' := 73) [.int (m.1 x0 6), .int (2 : Int32), .ref x0] rfl (fun _ => rfl) rfl ?_
          refine dw_l (fun t => Φ t) (pc' := 76) (fun q5 => []) (fun q5 => q5) rfl (fun _ => rfl) (fun q5 => ?_)
          refine dw_g rfl ?_
          exact dw_r (some (.inl (none, q5))) rfl (fun _ => rfl) (kR _)
        · refine dw_g rfl ?_
          refine dg_s (pc' := 61) [.ref x0] rfl (fun _ => rfl) rfl ?_
          refine dw_b (fun t => Φ t) (pc' := 64) (fun q6 => []) (fun q6 => q6) rfl (fun _ => rfl) (fun q6 => ?_)
          refine dw_g rfl ?_
          refine dg_s (pc' := 76) [] rfl (fun _ => rfl) rfl ?_
          exact dw_r (some (.inl (none, q6))) rfl (fun _ => rfl) (kR _)
      · refine dw_g rfl ?_
        refine dg_s (pc' := 44) [.ref x0] rfl (fun _ => rfl) rfl ?_
        refine dg_s (pc' := 45) [.int (2 : Int32), .ref x0] rfl (fun _ => rfl) rfl ?_
        refine dw_b (fun t => Φ t) (pc' := 48) (fun q7 => []) (fun q7 => q7) rfl (fun _ => rfl) (fun q7 => ?_)
        refine dw_g rfl ?_
        refine dg_s (pc' := 76) [] rfl (fun _ => rfl) rfl ?_
        exact dw_r (some (.inl (none, q7))) rfl (fun _ => rfl) (kR _)
    · refine dw_g rfl ?_
      refine dg_s (pc' := 27) [.ref x0] rfl (fun _ => rfl) rfl ?_
      refine dg_s (pc' := 28) [.int (1 : Int32), .ref x0] rfl (fun _ => rfl) rfl ?_
      refine dw_b (fun t => Φ t) (pc' := 31) (fun q8 => []) (fun q8 => q8) rfl (fun _ => rfl) (fun q8 => ?_)
      refine dw_g rfl ?_
      refine dg_s (pc' := 76) [] rfl (fun _ => rfl) rfl ?_
      exact dw_r (some (.inl (none, q8))) rfl (fun _ => rfl) (kR _)
  · refine dw_g rfl ?_
    refine dg_s (pc' := 10) [.ref x0] rfl (fun _ => rfl) rfl ?_
    refine dg_s (pc' := 11) [.int (0 : Int32), .ref x0] rfl (fun _ => rfl) rfl ?_
    refine dw_b (fun t => Φ t) (pc' := 14) (fun q9 => []) (fun q9 => q9) rfl (fun _ => rfl) (fun q9 => ?_)
    refine dw_g rfl ?_
    refine dg_s (pc' := 76) [] rfl (fun _ => rfl) rfl ?_
    exact dw_r (some (.inl (none, q9))) rfl (fun _ => rfl) (kR _)
noncomputable def H_X4_readLine : dc_H := fun As m k => match As with
  | [.ref x0] => (d_X4_readLine x0 m).bind (fun q => k (none) q)
  | _ => dc_kz
theorem H_X4_readLine_ok : dc_cok 3 48 H_X4_readLine := fun M' hG N As m k P hz hP => by
  obtain rfl : ab_M_X4_readLine = M' := Option.some.inj hG
  unfold H_X4_readLine at hP
  split at hP
  · rename_i x0
    exact dc_pv.imp (k_X4_readLine (Φ := fun (t : Option dc_M) r m' => P (t.bind (fun q => k (none) q)) → P (k r m')) x0 m (fun _ h => h) rfl) (fun r m' h => h hP)
  · exact absurd hP hz
noncomputable def C_X4_readInto : List (Nat × dc_H) := [(23, H_X3_clear), (48, H_X4_readLine), (55, H_X4_take)]
theorem CO_X4_readInto : dc_CO 3 C_X4_readInto := dc_CO_cons H_X3_clear_ok (dc_CO_cons H_X4_readLine_ok (dc_CO_cons H_X4_take_ok (dc_CO_nil)))
def S_X4_readInto : List (Nat × List Nat) := [(5, [0]), (33, [0, 2]), (64, [0])]
noncomputable def d_X4_readInto_b64 (x0 : Nat) (m : dc_M) : Option (Int32 × dc_M) :=
  (if ¬ (Int32.toInt (m.1 x0 2)) = 0 then some (((0 : Int32), m)) else some (((1 : Int32), m)))
set_option maxHeartbeats 8000000 in
theorem k_X4_readInto_b64 {N : Nat} {Φ : (Option (Int32 × dc_M)) → Option Value → dc_M → Prop} (x0 : Nat) (m : dc_M) (kR : ∀ (v : Int32) (m : dc_M), Φ (some ((v, m))) (some (.int v)) m)  {lv : ab_L} (f0 : ab_lk lv 0 = some (.ref x0)) : dc_pv 3 N ab_M_X4_readInto 64 lv [] m (Φ (d_X4_readInto_b64 x0 m)) := by
  refine dc_pv.mono (dc_ok (C := C_X4_readInto) (S := S_X4_readInto) CO_X4_readInto 400 64 [(0, .ref x0)] lv [] m (dc_sub_cons f0 (dc_sub_nil)) ?_) (Nat.le_succ N)
  unfold d_X4_readInto_b64
  refine dg_s (pc' := 65) [.ref x0] rfl (fun _ => rfl) rfl ?_
  refine dg_s (pc' := 68) [.int (m.1 x0 2)] rfl (fun _ => rfl) rfl ?_
  refine dw_if (fun t => Φ t) (¬ (Int32.toInt (m.1 x0 2)) = 0) [] 75 71 rfl (fun _ => rfl) (fun c0 => ?_) (fun c0 => ?_)
  · refine dw_g rfl ?_
    refine dg_s (pc' := 76) [.int (0 : Int32)] rfl (fun _ => rfl) rfl ?_
    exact dw_r (some (.inl (some (.int (0 : Int32)), m))) rfl (fun _ => rfl) (kR _ _)
  · refine dw_g rfl ?_
    refine dg_s (pc' := 72) [.int (1 : Int32)] rfl (fun _ => rfl) rfl ?_
    refine dg_s (pc' := 76) [.int (1 : Int32)] rfl (fun _ => rfl) rfl ?_
    exact dw_r (some (.inl (some (.int (1 : Int32)), m))) rfl (fun _ => rfl) (kR _ _)
noncomputable def d_X4_readInto_l33b (x0 : Nat) (x2 : Int32) (m : dc_M) : Option ((Int32 × dc_M) ⊕ (Int32 × dc_M)) :=
  (if 240 ≤ (Int32.toInt x2) then ((d_X4_readInto_b64 x0 m).map (fun z => Sum.inr (z))) else (if ¬ (Int32.toInt (m.1 x0 2)) = 0 then ((d_X4_readInto_b64 x0 m).map (fun z => Sum.inr (z))) else (if (Int32.toInt (m.1 x0 5)) = 0 then ((d_X4_readInto_b64 x0 m).map (fun z => Sum.inr (z))) else ((d_X4_readLine x0 m).bind (fun q1 => some (Sum.inl ((x2 + (1 : Int32)), q1)))))))
noncomputable def d_X4_readInto_l33s (x0 : Nat) : (Int32 × dc_M) → Option ((Int32 × dc_M) ⊕ (Int32 × dc_M)) := fun s => d_X4_readInto_l33b x0 s.1 s.2
noncomputable def d_X4_readInto_l33 (x0 : Nat) (x2 : Int32) (m : dc_M) : Option (Int32 × dc_M) := dc_lp (d_X4_readInto_l33s x0) (x2, m)
set_option maxHeartbeats 8000000 in
theorem k_X4_readInto_l33 {Φ : (Option (Int32 × dc_M)) → Option Value → dc_M → Prop} (x0 : Nat) (kR : ∀ (v : Int32) (m : dc_M), Φ (some ((v, m))) (some (.int v)) m) : ∀ (N : Nat), ∀ (x2 : Int32) (m : dc_M) (lv : ab_L), ab_lk lv 0 = some (.ref x0) → ab_lk lv 2 = some (.int x2) → dc_pv 3 N ab_M_X4_readInto 33 lv [] m (Φ (d_X4_readInto_l33 x0 x2 m)) := by
  intro N
  induction N with
  | zero => intros; exact dc_pv_zero
  | succ N ih =>
    intro x2 m lv f0 f2
    refine dc_ok (C := C_X4_readInto) (S := S_X4_readInto) CO_X4_readInto 400 33 [(0, .ref x0), (2, .int x2)] lv [] m (dc_sub_cons f0 (dc_sub_cons f2 (dc_sub_nil))) ?_
    unfold d_X4_readInto_l33
    rw [dc_lp_eq]
    show (fun t x => dc_lf 3 N ab_M_X4_readInto (Φ (Option.bind t (dc_bk (d_X4_readInto_l33s x0)))) x) (d_X4_readInto_l33b x0 x2 m) _
    dsimp only
    unfold d_X4_readInto_l33b
    refine dg_s (pc' := 34) [.int x2] rfl (fun _ => rfl) rfl ?_
    refine dg_s (pc' := 37) [.int (240 : Int32), .int x2] rfl (fun _ => rfl) rfl ?_
    refine dw_if (fun t => Φ (Option.bind t (dc_bk (d_X4_readInto_l33s x0)))) (240 ≤ (Int32.toInt x2)) [] 64 40 rfl (fun _ => rfl) (fun c0 => ?_) (fun c0 => ?_)
    · exact dw_j rfl (fun lv1 hv => k_X4_readInto_b64 (Φ := (fun t => Φ (Option.bind (t.map (fun z => Sum.inr (z))) (dc_bk (d_X4_readInto_l33s x0))))) x0 m (fun _a _b => kR _a _b)  (hv.1 _ rfl))
    · refine dw_g rfl ?_
      refine dg_s (pc' := 41) [.ref x0] rfl (fun _ => rfl) rfl ?_
      refine dg_s (pc' := 44) [.int (m.1 x0 2)] rfl (fun _ => rfl) rfl ?_
      refine dw_if (fun t => Φ (Option.bind t (dc_bk (d_X4_readInto_l33s x0)))) (¬ (Int32.toInt (m.1 x0 2)) = 0) [] 64 47 rfl (fun _ => rfl) (fun c1 => ?_) (fun c1 => ?_)
      · exact dw_j rfl (fun lv1 hv => k_X4_readInto_b64 (Φ := (fun t => Φ (Option.bind (t.map (fun z => Sum.inr (z))) (dc_bk (d_X4_readInto_l33s x0))))) x0 m (fun _a _b => kR _a _b)  (hv.1 _ rfl))
      · refine dw_g rfl ?_
        refine dg_s (pc' := 48) [.ref x0] rfl (fun _ => rfl) rfl ?_
        refine dg_s (pc' := 51) [.int (m.1 x0 5)] rfl (fun _ => rfl) rfl ?_
        refine dw_if (fun t => Φ (Option.bind t (dc_bk (d_X4_readInto_l33s x0)))) ((Int32.toInt (m.1 x0 5)) = 0) [] 64 54 rfl (fun _ => rfl) (fun c2 => ?_) (fun c2 => ?_)
        · exact dw_j rfl (fun lv1 hv => k_X4_readInto_b64 (Φ := (fun t => Φ (Option.bind (t.map (fun z => Sum.inr (z))) (dc_bk (d_X4_readInto_l33s x0))))) x0 m (fun _a _b => kR _a _b)  (hv.1 _ rfl))
        · refine dw_g rfl ?_
          refine dg_s (pc' := 55) [.ref x0] rfl (fun _ => rfl) rfl ?_
          refine dw_b (fun t => Φ (Option.bind t (dc_bk (d_X4_readInto_l33s x0)))) (pc' := 58) (fun q1 => []) (fun q1 => q1) rfl (fun _ => rfl) (fun q1 => ?_)
          refine dw_g rfl ?_
          refine dg_L (pc' := 61) [(2, .int (x2 + (1 : Int32))), (0, .ref x0)] [] rfl (fun _ => rfl) rfl ?_
          refine dw_s (pc' := 33) [] rfl (fun _ => rfl) ?_
          exact dw_j rfl (fun lv1 hv => ih (x2 + (1 : Int32)) q1 lv1 (hv.1 _ rfl) (hv.2.1 _ rfl))
noncomputable def d_X4_readInto_b5 (x0 : Nat) (m : dc_M) : Option (Int32 × dc_M) :=
  (dc_let (d_X3_clear (m.2.2.1 x0 8) m) (fun q1 => ((d_X4_take x0 (dc_wi (dc_wi (dc_wi q1 x0 2 (0 : Int32)) x0 3 (0 : Int32)) x0 4 (0 : Int32))).bind (fun q2 => (d_X4_readInto_l33 x0 (0 : Int32) q2)))))
set_option maxHeartbeats 8000000 in
theorem k_X4_readInto_b5 {N : Nat} {Φ : (Option (Int32 × dc_M)) → Option Value → dc_M → Prop} (x0 : Nat) (m : dc_M) (kR : ∀ (v : Int32) (m : dc_M), Φ (some ((v, m))) (some (.int v)) m)  {lv : ab_L} (f0 : ab_lk lv 0 = some (.ref x0)) : dc_pv 3 N ab_M_X4_readInto 5 lv [] m (Φ (d_X4_readInto_b5 x0 m)) := by
  refine dc_pv.mono (dc_ok (C := C_X4_readInto) (S := S_X4_readInto) CO_X4_readInto 400 5 [(0, .ref x0)] lv [] m (dc_sub_cons f0 (dc_sub_nil)) ?_) (Nat.le_succ N)
  unfold d_X4_readInto_b5
  refine dg_s (pc' := 6) [.ref x0] rfl (fun _ => rfl) rfl ?_
  refine dg_s (pc' := 9) [.ref (m.2.2.1 x0 8)] rfl (fun _ => rfl) rfl ?_
  refine dw_l (fun t => Φ t) (pc' := 12) (fun q1 => []) (fun q1 => q1) rfl (fun _ => rfl) (fun q1 => ?_)
  refine dw_g rfl ?_
  refine dg_s (pc' := 13) [.ref x0] rfl (fun _ => rfl) rfl ?_
  refine dg_s (pc' := 14) [.int (0 : Int32), .ref x0] rfl (fun _ => rfl) rfl ?_
  refine dg_m (pc' := 17) (dc_wi q1 x0 2 (0 : Int32)) [] rfl (fun _ => rfl) rfl ?_
  refine dg_s (pc' := 18) [.ref x0] rfl (fun _ => rfl) rfl ?_
  refine dg_s (pc' := 19) [.int (0 : Int32), .ref x0] rfl (fun _ => rfl) rfl ?_
  refine dg_m (pc' := 22) (dc_wi (dc_wi q1 x0 2 (0 : Int32)) x0 3 (0 : Int32)) [] rfl (fun _ => rfl) rfl ?_
  refine dg_s (pc' := 23) [.ref x0] rfl (fun _ => rfl) rfl ?_
  refine dg_s (pc' := 24) [.int (0 : Int32), .ref x0] rfl (fun _ => rfl) rfl ?_
  refine dg_m (pc' := 27) (dc_wi (dc_wi (dc_wi q1 x0 2 (0 : Int32)) x0 3 (0 : Int32)) x0 4 (0 : Int32)) [] rfl (fun _ => rfl) rfl ?_
  refine dg_s (pc' := 28) [.ref x0] rfl (fun _ => rfl) rfl ?_
  refine dw_b (fun t => Φ t) (pc' := 31) (fun q2 => []) (fun q2 => q2) rfl (fun _ => rfl) (fun q2 => ?_)
  refine dw_g rfl ?_
  refine dg_s (pc' := 32) [.int (0 : Int32)] rfl (fun _ => rfl) rfl ?_
  refine dw_L (pc' := 33) [(2, .int (0 : Int32)), (0, .ref x0)] [] rfl (fun _ => rfl) ?_
  exact dw_j rfl (fun lv1 hv => k_X4_readInto_l33 (Φ := (fun t => Φ t)) x0 (fun _a _b => kR _a _b) N  (0 : Int32) q2 lv1 (hv.1 _ rfl) (hv.2.1 _ rfl))
noncomputable def d_X4_readInto (x0 : Nat) (x1 : Nat) (m : dc_M) : Option (Int32 × dc_M) := d_X4_readInto_b5 x0 (dc_wr m x0 8 x1)
theorem dc_fk43 {ci k : Nat} (h : ¬ (ci = 4 ∧ k = 8)) : dc_fk 3 ci k = dc_fk 4 ci k := by
  unfold dc_fk
  split
  all_goals first
    | rfl
    | (rw [if_neg h, if_neg h])
theorem dc_wf34 {h : ab_H} (w : dc_wf 3 h) : dc_wf 4 h := fun a ha => by
  have q := w a ha
  cases hh : h.2.2 a with
  | inl z =>
    rw [hh] at q
    obtain ⟨t, n, c⟩ := z
    rcases c with c | c | c <;> exact q
  | inr z =>
    obtain ⟨ci, ws⟩ := z
    rw [hh] at q
    refine ⟨q.1, fun k v hk => ?_⟩
    by_cases e : ci = 4 ∧ k = 8
    · have q := q.2 k v hk
      obtain ⟨rfl, rfl⟩ := e
      exact Or.inr q
    · rw [← dc_fk43 e]
      exact q.2 k v hk
theorem dc_wf43 {h : ab_H} {a : Nat} {fs : List Value} {x : Nat} (w : dc_wf 4 h) (hr : ab_rd h a = some (.inr (4, fs))) (hl : 8 < fs.length) : dc_wf 3 (ab_wr h a (.inr (4, fs.set 8 (.ref x)))) := fun b hb => by
  have hb : b < h.1 := hb
  have q := w b hb
  have qa := dc_we_of w hr
  show dc_we 3 b (va_up h.2.2 a _ b)
  unfold va_up
  by_cases e : b = a
  · rw [if_pos e]
    refine ⟨fun z => by rw [e]; exact qa.1 z, fun k v hk => ?_⟩
    have hk : (fs.set 8 (.ref x))[k]? = some v := hk
    rw [dc_gs hl] at hk
    split at hk
    · rename_i e2
      cases hk
      rw [e2]
      exact ⟨x, rfl⟩
    · rename_i e2
      rw [dc_fk43 (fun z => e2 z.2), e]
      exact qa.2 k v hk
  · rw [if_neg e]
    cases hh : h.2.2 b with
    | inl z =>
      rw [hh] at q
      obtain ⟨t, n, c⟩ := z
      rcases c with c | c | c <;> exact q
    | inr z =>
      obtain ⟨ci, ws⟩ := z
      rw [hh] at q
      refine ⟨q.1, fun k v hk => ?_⟩
      by_cases e2 : ci = 4 ∧ k = 8
      · exact absurd ((q.1 e2.1).trans (qa.1 rfl).symm) e
      · rw [dc_fk43 e2]
        exact q.2 k v hk
theorem k_X4_readInto {N : Nat} {Φ : (Option (Int32 × dc_M)) → Option Value → dc_M → Prop} (x0 : Nat) (x1 : Nat) (m : dc_M) (kR : ∀ (v : Int32) (m : dc_M), Φ (some ((v, m))) (some (.int v)) m) {lv : ab_L} (f0 : ab_lk lv 0 = some (.ref x0)) (f1 : ab_lk lv 1 = some (.ref x1)) : dc_pv 4 N ab_M_X4_readInto 0 lv [] m (Φ (d_X4_readInto x0 x1 m)) := by
  intro d h wf hv
  refine pa_s (pc' := 1) (lv' := lv) (st' := [.ref x0]) (h' := h) rfl rfl (ig_ald f0) ?_
  refine pa_s (pc' := 2) (lv' := lv) (st' := [.ref x1, .ref x0]) (h' := h) rfl rfl (ig_ald f1) ?_
  intro n hn r h' hx
  cases n with
  | zero => cases hx
  | succ n =>
    unfold ab_ex at hx
    have a1 : ab_at ab_M_X4_readInto.2.2.2.2.2 2 = some (ab_f (.putfield 19) 4 8 144) := rfl
    simp only [a1, show ab_kd (ab_f (.putfield 19) 4 8 144) = 0 from rfl] at hx
    cases e : ab_sp ab_M_X4_readInto.2.2.1 (ab_f (.putfield 19) 4 8 144) 2 lv [.ref x1, .ref x0] h with
    | none => rw [e] at hx; cases hx
    | some s =>
      rw [e] at hx
      have e : ab_put 4 8 2 lv [.ref x1, .ref x0] h = some s := e
      unfold ab_put at e
      dsimp only at e
      split at e
      · rename_i cj fs hr
        split at e
        · rename_i hc
          obtain ⟨rfl, hl, hf⟩ := hc
          cases e
          have vw : dc_vw (ab_wr h x0 (.inr (4, fs.set 8 (.ref x1)))) = dc_wr m x0 8 x1 := by
            obtain ⟨old, hold⟩ : ∃ old, fs[8]? = some old := ⟨_, List.getElem?_eq_getElem hl⟩
            have wo : old = .null ∨ ∃ b, old = .ref b := (dc_we_of wf hr).2 8 old hold
            rw [dc_vw_wr, ← hv]
            unfold dc_wr
            refine Prod.ext ?_ (Prod.ext ?_ (Prod.ext ?_ ?_))
            · refine dc_same1 (fun j => ?_)
              rw [dc_v1 hr]
              unfold dc_vi
              dsimp only
              rw [dc_gs hl]
              by_cases q : j = 8
              · rw [if_pos q, q, hold]
                rcases wo with rfl | ⟨b, rfl⟩ <;> rfl
              · rw [if_neg q]
            · refine dc_same2 (fun j => ?_)
              rw [dc_v2 hr]
              unfold dc_vl
              dsimp only
              rw [dc_gs hl]
              by_cases q : j = 8
              · rw [if_pos q, q, hold]
                rcases wo with rfl | ⟨b, rfl⟩ <;> rfl
              · rw [if_neg q]
            · refine dc_set1 ?_ (fun j hj => ?_)
              · unfold dc_vr
                dsimp only
                rw [dc_gs hl, if_pos rfl]
              · rw [dc_v3 hr]
                unfold dc_vr
                dsimp only
                rw [dc_gs hl, if_neg hj]
            · exact dc_same4 (by rw [dc_v4 hr]; rfl)
          have k := k_X4_readInto_b5 (N := n) (Φ := Φ) x0 (dc_wr m x0 8 x1) kR (lv := lv) f0 d _ (dc_wf43 wf hr hl) vw n (Nat.le_refl _) r h' hx
          exact ⟨dc_wf34 k.1, k.2⟩
        · cases e
      · cases e
noncomputable def H_X4_readInto : dc_H := fun As m k => match As with
  | [.ref x0, .ref x1] => (d_X4_readInto x0 x1 m).bind (fun q => k (some (.int q.1)) q.2)
  | _ => dc_kz
theorem H_X4_readInto_ok : dc_cok 4 47 H_X4_readInto := fun M' hG N As m k P hz hP => by
  obtain rfl : ab_M_X4_readInto = M' := Option.some.inj hG
  unfold H_X4_readInto at hP
  split at hP
  · rename_i x0 x1
    exact dc_pv.imp (k_X4_readInto (Φ := fun (t : Option (Int32 × dc_M)) r m' => P (t.bind (fun q => k (some (.int q.1)) q.2)) → P (k r m')) x0 x1 m (fun _ _ h => h) rfl rfl) (fun r m' h => h hP)
  · exact absurd hP hz
def C_X5_reduce : List (Nat × dc_H) := []
theorem CO_X5_reduce {u : Nat} : dc_CO u C_X5_reduce := dc_CO_nil
def S_X5_reduce : List (Nat × List Nat) := [(12, [0, 1, 2, 3]), (38, [0, 1])]
noncomputable def d_X5_reduce_b38 (x0 : Nat) (x1 : Int32) (m : dc_M) : Option dc_M :=
  (if (Int32.toInt x1) ≤ 1 then some (m) else some ((dc_wi (dc_wi m x0 1 ((m.1 x0 1) / x1)) x0 2 (((dc_wi m x0 1 ((m.1 x0 1) / x1)).1 x0 2) / x1))))
set_option maxHeartbeats 8000000 in
theorem k_X5_reduce_b38 {u : Nat} {N : Nat} {Φ : (Option dc_M) → Option Value → dc_M → Prop} (x0 : Nat) (x1 : Int32) (m : dc_M) (kR : ∀  (m : dc_M), Φ (some (m)) (none) m)  {lv : ab_L} (f0 : ab_lk lv 0 = some (.ref x0)) (f1 : ab_lk lv 1 = some (.int x1)) : dc_pv u N ab_M_X5_reduce 38 lv [] m (Φ (d_X5_reduce_b38 x0 x1 m)) := by
  refine dc_pv.mono (dc_ok (C := C_X5_reduce) (S := S_X5_reduce) CO_X5_reduce 400 38 [(0, .ref x0), (1, .int x1)] lv [] m (dc_sub_cons f0 (dc_sub_cons f1 (dc_sub_nil))) ?_) (Nat.le_succ N)
  unfold d_X5_reduce_b38
  refine dg_s (pc' := 39) [.int x1] rfl (fun _ => rfl) rfl ?_
  refine dg_s (pc' := 40) [.int (1 : Int32), .int x1] rfl (fun _ => rfl) rfl ?_
  refine dw_if (fun t => Φ t) ((Int32.toInt x1) ≤ 1) [] 63 43 rfl (fun _ => rfl) (fun c0 => ?_) (fun c0 => ?_)
  · refine dw_g rfl ?_
    exact dw_r (some (.inl (none, m))) rfl (fun _ => rfl) (kR _)
  · refine dw_g rfl ?_
    refine dg_s (pc' := 44) [.ref x0] rfl (fun _ => rfl) rfl ?_
    refine dg_s (pc' := 45) [.ref x0, .ref x0] rfl (fun _ => rfl) rfl ?_
    refine dg_s (pc' := 48) [.int (m.1 x0 1), .ref x0] rfl (fun _ => rfl) rfl ?_
    refine dg_s (pc' := 49) [.int x1, .int (m.1 x0 1), .ref x0] rfl (fun _ => rfl) rfl ?_
    refine dg_s (pc' := 50) [.int ((m.1 x0 1) / x1), .ref x0] rfl (fun _ => rfl) rfl ?_
    refine dg_m (pc' := 53) (dc_wi m x0 1 ((m.1 x0 1) / x1)) [] rfl (fun _ => rfl) rfl ?_
    refine dg_s (pc' := 54) [.ref x0] rfl (fun _ => rfl) rfl ?_
    refine dg_s (pc' := 55) [.ref x0, .ref x0] rfl (fun _ => rfl) rfl ?_
    refine dg_s (pc' := 58) [.int ((dc_wi m x0 1 ((m.1 x0 1) / x1)).1 x0 2), .ref x0] rfl (fun _ => rfl) rfl ?_
    refine dg_s (pc' := 59) [.int x1, .int ((dc_wi m x0 1 ((m.1 x0 1) / x1)).1 x0 2), .ref x0] rfl (fun _ => rfl) rfl ?_
    refine dg_s (pc' := 60) [.int (((dc_wi m x0 1 ((m.1 x0 1) / x1)).1 x0 2) / x1), .ref x0] rfl (fun _ => rfl) rfl ?_
    refine dg_m (pc' := 63) (dc_wi (dc_wi m x0 1 ((m.1 x0 1) / x1)) x0 2 (((dc_wi m x0 1 ((m.1 x0 1) / x1)).1 x0 2) / x1)) [] rfl (fun _ => rfl) rfl ?_
    exact dw_r (some (.inl (none, (dc_wi (dc_wi m x0 1 ((m.1 x0 1) / x1)) x0 2 (((dc_wi m x0 1 ((m.1 x0 1) / x1)).1 x0 2) / x1))))) rfl (fun _ => rfl) (kR _)
noncomputable def d_X5_reduce_l12b (x0 : Nat) (x1 : Int32) (x2 : Int32) (x3 : Int32) (m : dc_M) : Option ((Int32 × Int32 × Int32) ⊕ dc_M) :=
  (if 100 ≤ (Int32.toInt x3) then ((d_X5_reduce_b38 x0 x1 m).map (fun z => Sum.inr (z))) else (if (Int32.toInt x2) = 0 then ((d_X5_reduce_b38 x0 x1 m).map (fun z => Sum.inr (z))) else some (Sum.inl (x2, (x1 - x1 / x2 * x2), (x3 + (1 : Int32))))))
noncomputable def d_X5_reduce_l12s (x0 : Nat) (m : dc_M) : (Int32 × Int32 × Int32) → Option ((Int32 × Int32 × Int32) ⊕ dc_M) := fun s => d_X5_reduce_l12b x0 s.1 s.2.1 s.2.2 m
noncomputable def d_X5_reduce_l12 (x0 : Nat) (x1 : Int32) (x2 : Int32) (x3 : Int32) (m : dc_M) : Option dc_M := dc_lp (d_X5_reduce_l12s x0 m) (x1, x2, x3)
set_option maxHeartbeats 8000000 in
theorem k_X5_reduce_l12 {u : Nat} {Φ : (Option dc_M) → Option Value → dc_M → Prop} (x0 : Nat) (m : dc_M) (kR : ∀  (m : dc_M), Φ (some (m)) (none) m) : ∀ (N : Nat), ∀ (x1 : Int32) (x2 : Int32) (x3 : Int32) (lv : ab_L), ab_lk lv 0 = some (.ref x0) → ab_lk lv 1 = some (.int x1) → ab_lk lv 2 = some (.int x2) → ab_lk lv 3 = some (.int x3) → dc_pv u N ab_M_X5_reduce 12 lv [] m (Φ (d_X5_reduce_l12 x0 x1 x2 x3 m)) := by
  intro N
  induction N with
  | zero => intros; exact dc_pv_zero
  | succ N ih =>
    intro x1 x2 x3 lv f0 f1 f2 f3
    refine dc_ok (C := C_X5_reduce) (S := S_X5_reduce) CO_X5_reduce 400 12 [(0, .ref x0), (1, .int x1), (2, .int x2), (3, .int x3)] lv [] m (dc_sub_cons f0 (dc_sub_cons f1 (dc_sub_cons f2 (dc_sub_cons f3 (dc_sub_nil))))) ?_
    unfold d_X5_reduce_l12
    rw [dc_lp_eq]
    show (fun t x => dc_lf u N ab_M_X5_reduce (Φ (Option.bind t (dc_bk (d_X5_reduce_l12s x0 m)))) x) (d_X5_reduce_l12b x0 x1 x2 x3 m) _
    dsimp only
    unfold d_X5_reduce_l12b
    refine dg_s (pc' := 13) [.int x3] rfl (fun _ => rfl) rfl ?_
    refine dg_s (pc' := 15) [.int (100 : Int32), .int x3] rfl (fun _ => rfl) rfl ?_
    refine dw_if (fun t => Φ (Option.bind t (dc_bk (d_X5_reduce_l12s x0 m)))) (100 ≤ (Int32.toInt x3)) [] 38 18 rfl (fun _ => rfl) (fun c0 => ?_) (fun c0 => ?_)
    · exact dw_j rfl (fun lv1 hv => k_X5_reduce_b38 (Φ := (fun t => Φ (Option.bind (t.map (fun z => Sum.inr (z))) (dc_bk (d_X5_reduce_l12s x0 m))))) x0 x1 m (fun _b => kR _b)  (hv.1 _ rfl) (hv.2.1 _ rfl))
    · refine dw_g rfl ?_
      refine dg_s (pc' := 19) [.int x2] rfl (fun _ => rfl) rfl ?_
      refine dw_if (fun t => Φ (Option.bind t (dc_bk (d_X5_reduce_l12s x0 m)))) ((Int32.toInt x2) = 0) [] 38 22 rfl (fun _ => rfl) (fun c1 => ?_) (fun c1 => ?_)
      · exact dw_j rfl (fun lv1 hv => k_X5_reduce_b38 (Φ := (fun t => Φ (Option.bind (t.map (fun z => Sum.inr (z))) (dc_bk (d_X5_reduce_l12s x0 m))))) x0 x1 m (fun _b => kR _b)  (hv.1 _ rfl) (hv.2.1 _ rfl))
      · refine dw_g rfl ?_
        refine dg_s (pc' := 23) [.int x1] rfl (fun _ => rfl) rfl ?_
        refine dg_s (pc' := 24) [.int x2, .int x1] rfl (fun _ => rfl) rfl ?_
        refine dg_s (pc' := 25) [.int (x1 - x1 / x2 * x2)] rfl (fun _ => rfl) rfl ?_
        refine dg_L (pc' := 27) [(4, .int (x1 - x1 / x2 * x2)), (0, .ref x0), (1, .int x1), (2, .int x2), (3, .int x3)] [] rfl (fun _ => rfl) rfl ?_
        refine dg_s (pc' := 28) [.int x2] rfl (fun _ => rfl) rfl ?_
        refine dg_L (pc' := 29) [(1, .int x2), (4, .int (x1 - x1 / x2 * x2)), (0, .ref x0), (2, .int x2), (3, .int x3)] [] rfl (fun _ => rfl) rfl ?_
        refine dg_s (pc' := 31) [.int (x1 - x1 / x2 * x2)] rfl (fun _ => rfl) rfl ?_
        refine dg_L (pc' := 32) [(2, .int (x1 - x1 / x2 * x2)), (1, .int x2), (4, .int (x1 - x1 / x2 * x2)), (0, .ref x0), (3, .int x3)] [] rfl (fun _ => rfl) rfl ?_
        refine dg_L (pc' := 35) [(3, .int (x3 + (1 : Int32))), (2, .int (x1 - x1 / x2 * x2)), (1, .int x2), (4, .int (x1 - x1 / x2 * x2)), (0, .ref x0)] [] rfl (fun _ => rfl) rfl ?_
        refine dw_s (pc' := 12) [] rfl (fun _ => rfl) ?_
        exact dw_j rfl (fun lv1 hv => ih x2 (x1 - x1 / x2 * x2) (x3 + (1 : Int32)) lv1 (hv.1 _ rfl) (hv.2.1 _ rfl) (hv.2.2.1 _ rfl) (hv.2.2.2.1 _ rfl))
noncomputable def d_X5_reduce (x0 : Nat) (m : dc_M) : Option dc_M :=
  (d_X5_reduce_l12 x0 (m.1 x0 1) (m.1 x0 2) (0 : Int32) m)
set_option maxHeartbeats 8000000 in
theorem k_X5_reduce {u : Nat} {N : Nat} {Φ : (Option dc_M) → Option Value → dc_M → Prop} (x0 : Nat) (m : dc_M) (kR : ∀  (m : dc_M), Φ (some (m)) (none) m)  {lv : ab_L} (f0 : ab_lk lv 0 = some (.ref x0)) : dc_pv u N ab_M_X5_reduce 0 lv [] m (Φ (d_X5_reduce x0 m)) := by
  refine dc_pv.mono (dc_ok (C := C_X5_reduce) (S := S_X5_reduce) CO_X5_reduce 400 0 [(0, .ref x0)] lv [] m (dc_sub_cons f0 (dc_sub_nil)) ?_) (Nat.le_succ N)
  unfold d_X5_reduce
  refine dg_s (pc' := 1) [.ref x0] rfl (fun _ => rfl) rfl ?_
  refine dg_s (pc' := 4) [.int (m.1 x0 1)] rfl (fun _ => rfl) rfl ?_
  refine dg_L (pc' := 5) [(1, .int (m.1 x0 1)), (0, .ref x0)] [] rfl (fun _ => rfl) rfl ?_
  refine dg_s (pc' := 6) [.ref x0] rfl (fun _ => rfl) rfl ?_
  refine dg_s (pc' := 9) [.int (m.1 x0 2)] rfl (fun _ => rfl) rfl ?_
  refine dg_L (pc' := 10) [(2, .int (m.1 x0 2)), (1, .int (m.1 x0 1)), (0, .ref x0)] [] rfl (fun _ => rfl) rfl ?_
  refine dg_s (pc' := 11) [.int (0 : Int32)] rfl (fun _ => rfl) rfl ?_
  refine dw_L (pc' := 12) [(3, .int (0 : Int32)), (2, .int (m.1 x0 2)), (1, .int (m.1 x0 1)), (0, .ref x0)] [] rfl (fun _ => rfl) ?_
  exact dw_j rfl (fun lv1 hv => k_X5_reduce_l12 (Φ := (fun t => Φ t)) x0 m (fun _b => kR _b) N  (m.1 x0 1) (m.1 x0 2) (0 : Int32) lv1 (hv.1 _ rfl) (hv.2.1 _ rfl) (hv.2.2.1 _ rfl) (hv.2.2.2.1 _ rfl))
noncomputable def H_X5_reduce : dc_H := fun As m k => match As with
  | [.ref x0] => (d_X5_reduce x0 m).bind (fun q => k (none) q)
  | _ => dc_kz
theorem H_X5_reduce_ok {u : Nat} : dc_cok u 72 H_X5_reduce := fun M' hG N As m k P hz hP => by
  obtain rfl : ab_M_X5_reduce = M' := Option.some.inj hG
  unfold H_X5_reduce at hP
  split at hP
  · rename_i x0
    exact dc_pv.imp (k_X5_reduce (Φ := fun (t : Option dc_M) r m' => P (t.bind (fun q => k (none) q)) → P (k r m')) x0 m (fun _ h => h) rfl) (fun r m' h => h hP)
  · exact absurd hP hz
noncomputable def C_X5_findBeat : List (Nat × dc_H) := [(72, H_X5_reduce)]
theorem CO_X5_findBeat {u : Nat} : dc_CO u C_X5_findBeat := dc_CO_cons H_X5_reduce_ok (dc_CO_nil)
def S_X5_findBeat : List (Nat × List Nat) := [(2, [0, 1, 2]), (9, [0, 1, 2, 3]), (80, [0, 1, 2, 3, 5]), (109, [0])]
noncomputable def d_X5_findBeat_b109 (x0 : Nat) (m : dc_M) : Option dc_M :=
  ((d_X5_reduce x0 m).bind (fun q1 => some (q1)))
set_option maxHeartbeats 8000000 in
theorem k_X5_findBeat_b109 {u : Nat} {N : Nat} {Φ : (Option dc_M) → Option Value → dc_M → Prop} (x0 : Nat) (m : dc_M) (kR : ∀  (m : dc_M), Φ (some (m)) (none) m)  {lv : ab_L} (f0 : ab_lk lv 0 = some (.ref x0)) : dc_pv u N ab_M_X5_findBeat 109 lv [] m (Φ (d_X5_findBeat_b109 x0 m)) := by
  refine dc_pv.mono (dc_ok (C := C_X5_findBeat) (S := S_X5_findBeat) CO_X5_findBeat 400 109 [(0, .ref x0)] lv [] m (dc_sub_cons f0 (dc_sub_nil)) ?_) (Nat.le_succ N)
  unfold d_X5_findBeat_b109
  refine dg_s (pc' := 110) [.ref x0] rfl (fun _ => rfl) rfl ?_
  refine dw_b (fun t => Φ t) (pc' := 113) (fun q1 => []) (fun q1 => q1) rfl (fun _ => rfl) (fun q1 => ?_)
  refine dw_g rfl ?_
  exact dw_r (some (.inl (none, q1))) rfl (fun _ => rfl) (kR _)
noncomputable def d_X5_findBeat_b80 (x0 : Nat) (x1 : Int32) (x2 : Int32) (x3 : Int32) (x5 : Int32) (m : dc_M) : Option ((Int32 × dc_M) ⊕ ((Int32 × dc_M) ⊕ dc_M)) :=
  (if (Int32.toInt x5) < 0 then some (Sum.inl ((x3 + (1 : Int32)), m)) else some (Sum.inl ((x3 + (1 : Int32)), (dc_wi m x0 3 ((m.1 x0 3) ||| ((1 : Int32) <<< (x2 &&& 31)))))))
set_option maxHeartbeats 8000000 in
theorem k_X5_findBeat_b80 {u : Nat} {N : Nat} {Φ : (Option ((Int32 × dc_M) ⊕ ((Int32 × dc_M) ⊕ dc_M))) → Option Value → dc_M → Prop} (x0 : Nat) (x1 : Int32) (x2 : Int32) (x3 : Int32) (x5 : Int32) (m : dc_M) (kR : ∀  (m : dc_M), Φ (some (Sum.inr (Sum.inr (m)))) (none) m) (k9 : ∀ (x3 : Int32) (m : dc_M) (lv : ab_L), ab_lk lv 0 = some (.ref x0) → ab_lk lv 1 = some (.int x1) → ab_lk lv 2 = some (.int x2) → ab_lk lv 3 = some (.int x3) →  dc_pv u N ab_M_X5_findBeat 9 lv [] m (Φ (some (Sum.inl (x3, m))))) (k2 : ∀ (x2 : Int32) (m : dc_M) (lv : ab_L), ab_lk lv 0 = some (.ref x0) → ab_lk lv 1 = some (.int x1) → ab_lk lv 2 = some (.int x2) →  dc_pv u N ab_M_X5_findBeat 2 lv [] m (Φ (some (Sum.inr (Sum.inl (x2, m)))))) {lv : ab_L} (f0 : ab_lk lv 0 = some (.ref x0)) (f1 : ab_lk lv 1 = some (.int x1)) (f2 : ab_lk lv 2 = some (.int x2)) (f3 : ab_lk lv 3 = some (.int x3)) (f5 : ab_lk lv 5 = some (.int x5)) : dc_pv u N ab_M_X5_findBeat 80 lv [] m (Φ (d_X5_findBeat_b80 x0 x1 x2 x3 x5 m)) := by
  refine dc_pv.mono (dc_ok (C := C_X5_findBeat) (S := S_X5_findBeat) CO_X5_findBeat 400 80 [(0, .ref x0), (1, .int x1), (2, .int x2), (3, .int x3), (5, .int x5)] lv [] m (dc_sub_cons f0 (dc_sub_cons f1 (dc_sub_cons f2 (dc_sub_cons f3 (dc_sub_cons f5 (dc_sub_nil)))))) ?_) (Nat.le_succ N)
  unfold d_X5_findBeat_b80
  refine dg_s (pc' := 82) [.int x5] rfl (fun _ => rfl) rfl ?_
  refine dw_if (fun t => Φ t) ((Int32.toInt x5) < 0) [] 97 85 rfl (fun _ => rfl) (fun c0 => ?_) (fun c0 => ?_)
  · refine dw_g rfl ?_
    refine dg_L (pc' := 100) [(3, .int (x3 + (1 : Int32))), (0, .ref x0), (1, .int x1), (2, .int x2), (5, .int x5)] [] rfl (fun _ => rfl) rfl ?_
    refine dw_s (pc' := 9) [] rfl (fun _ => rfl) ?_
    exact dw_j rfl (fun lv1 hv => k9 (x3 + (1 : Int32)) m lv1 (hv.1 _ rfl) (hv.2.1 _ rfl) (hv.2.2.1 _ rfl) (hv.2.2.2.1 _ rfl))
  · refine dw_g rfl ?_
    refine dg_s (pc' := 86) [.ref x0] rfl (fun _ => rfl) rfl ?_
    refine dg_s (pc' := 87) [.ref x0, .ref x0] rfl (fun _ => rfl) rfl ?_
    refine dg_s (pc' := 90) [.int (m.1 x0 3), .ref x0] rfl (fun _ => rfl) rfl ?_
    refine dg_s (pc' := 91) [.int (1 : Int32), .int (m.1 x0 3), .ref x0] rfl (fun _ => rfl) rfl ?_
    refine dg_s (pc' := 92) [.int x2, .int (1 : Int32), .int (m.1 x0 3), .ref x0] rfl (fun _ => rfl) rfl ?_
    refine dg_s (pc' := 93) [.int ((1 : Int32) <<< (x2 &&& 31)), .int (m.1 x0 3), .ref x0] rfl (fun _ => rfl) rfl ?_
    refine dg_s (pc' := 94) [.int ((m.1 x0 3) ||| ((1 : Int32) <<< (x2 &&& 31))), .ref x0] rfl (fun _ => rfl) rfl ?_
    refine dg_m (pc' := 97) (dc_wi m x0 3 ((m.1 x0 3) ||| ((1 : Int32) <<< (x2 &&& 31)))) [] rfl (fun _ => rfl) rfl ?_
    refine dg_L (pc' := 100) [(3, .int (x3 + (1 : Int32))), (0, .ref x0), (1, .int x1), (2, .int x2), (5, .int x5)] [] rfl (fun _ => rfl) rfl ?_
    refine dw_s (pc' := 9) [] rfl (fun _ => rfl) ?_
    exact dw_j rfl (fun lv1 hv => k9 (x3 + (1 : Int32)) (dc_wi m x0 3 ((m.1 x0 3) ||| ((1 : Int32) <<< (x2 &&& 31)))) lv1 (hv.1 _ rfl) (hv.2.1 _ rfl) (hv.2.2.1 _ rfl) (hv.2.2.2.1 _ rfl))
noncomputable def d_X5_findBeat_l9b (x0 : Nat) (x1 : Int32) (x2 : Int32) (x3 : Int32) (m : dc_M) : Option ((Int32 × dc_M) ⊕ ((Int32 × dc_M) ⊕ dc_M)) :=
  (if (Int32.toInt x1) < (Int32.toInt x3) then some (Sum.inr (Sum.inl ((x2 + (1 : Int32)), m))) else (if ¬ (Int32.toInt (m.1 (x0 + 6) (Int32.toNatClampNeg ((x2 * (17 : Int32)) + x3)))) = (-1) then (if (Int32.toInt (m.1 x0 2)) = 0 then (d_X5_findBeat_b80 x0 x1 x2 x3 (((m.1 (x0 + 6) (Int32.toNatClampNeg ((x2 * (17 : Int32)) + x3))) * (m.1 x0 2)) - ((m.1 x0 1) * x3)) (dc_wi (dc_wi (dc_wi m x0 1 (m.1 (x0 + 6) (Int32.toNatClampNeg ((x2 * (17 : Int32)) + x3)))) x0 2 x3) x0 3 (0 : Int32))) else (if (Int32.toInt (((m.1 (x0 + 6) (Int32.toNatClampNeg ((x2 * (17 : Int32)) + x3))) * (m.1 x0 2)) - ((m.1 x0 1) * x3))) ≤ 0 then (d_X5_findBeat_b80 x0 x1 x2 x3 (((m.1 (x0 + 6) (Int32.toNatClampNeg ((x2 * (17 : Int32)) + x3))) * (m.1 x0 2)) - ((m.1 x0 1) * x3)) m) else (d_X5_findBeat_b80 x0 x1 x2 x3 (((m.1 (x0 + 6) (Int32.toNatClampNeg ((x2 * (17 : Int32)) + x3))) * (m.1 x0 2)) - ((m.1 x0 1) * x3)) (dc_wi (dc_wi (dc_wi m x0 1 (m.1 (x0 + 6) (Int32.toNatClampNeg ((x2 * (17 : Int32)) + x3)))) x0 2 x3) x0 3 (0 : Int32))))) else some (Sum.inl ((x3 + (1 : Int32)), m))))
noncomputable def d_X5_findBeat_l9s (x0 : Nat) (x1 : Int32) (x2 : Int32) : (Int32 × dc_M) → Option ((Int32 × dc_M) ⊕ ((Int32 × dc_M) ⊕ dc_M)) := fun s => d_X5_findBeat_l9b x0 x1 x2 s.1 s.2
noncomputable def d_X5_findBeat_l9 (x0 : Nat) (x1 : Int32) (x2 : Int32) (x3 : Int32) (m : dc_M) : Option ((Int32 × dc_M) ⊕ dc_M) := dc_lp (d_X5_findBeat_l9s x0 x1 x2) (x3, m)
set_option maxHeartbeats 8000000 in
theorem k_X5_findBeat_l9 {u : Nat} {Φ : (Option ((Int32 × dc_M) ⊕ dc_M)) → Option Value → dc_M → Prop} (x0 : Nat) (x1 : Int32) (x2 : Int32) (kR : ∀  (m : dc_M), Φ (some (Sum.inr (m))) (none) m) : ∀ (N : Nat), (∀ (x2 : Int32) (m : dc_M) (lv : ab_L), ab_lk lv 0 = some (.ref x0) → ab_lk lv 1 = some (.int x1) → ab_lk lv 2 = some (.int x2) →  dc_pv u N ab_M_X5_findBeat 2 lv [] m (Φ (some (Sum.inl (x2, m))))) → ∀ (x3 : Int32) (m : dc_M) (lv : ab_L), ab_lk lv 0 = some (.ref x0) → ab_lk lv 1 = some (.int x1) → ab_lk lv 2 = some (.int x2) → ab_lk lv 3 = some (.int x3) → dc_pv u N ab_M_X5_findBeat 9 lv [] m (Φ (d_X5_findBeat_l9 x0 x1 x2 x3 m)) := by
  intro N
  induction N with
  | zero => intros; exact dc_pv_zero
  | succ N ih =>
    intro k2 x3 m lv f0 f1 f2 f3
    have k2 := fun a0 a1 a2 a3 a4 a5 => (k2 a0 a1 a2 a3 a4 a5).mono (Nat.le_succ N)
    have ih := ih k2
    refine dc_ok (C := C_X5_findBeat) (S := S_X5_findBeat) CO_X5_findBeat 400 9 [(0, .ref x0), (1, .int x1), (2, .int x2), (3, .int x3)] lv [] m (dc_sub_cons f0 (dc_sub_cons f1 (dc_sub_cons f2 (dc_sub_cons f3 (dc_sub_nil))))) ?_
    unfold d_X5_findBeat_l9
    rw [dc_lp_eq]
    show (fun t x => dc_lf u N ab_M_X5_findBeat (Φ (Option.bind t (dc_bk (d_X5_findBeat_l9s x0 x1 x2)))) x) (d_X5_findBeat_l9b x0 x1 x2 x3 m) _
    dsimp only
    unfold d_X5_findBeat_l9b
    refine dg_s (pc' := 10) [.int x3] rfl (fun _ => rfl) rfl ?_
    refine dg_s (pc' := 11) [.int x1, .int x3] rfl (fun _ => rfl) rfl ?_
    refine dw_if (fun t => Φ (Option.bind t (dc_bk (d_X5_findBeat_l9s x0 x1 x2)))) ((Int32.toInt x1) < (Int32.toInt x3)) [] 103 14 rfl (fun _ => rfl) (fun c0 => ?_) (fun c0 => ?_)
    · refine dw_g rfl ?_
      refine dg_L (pc' := 106) [(2, .int (x2 + (1 : Int32))), (0, .ref x0), (1, .int x1), (3, .int x3)] [] rfl (fun _ => rfl) rfl ?_
      refine dw_s (pc' := 2) [] rfl (fun _ => rfl) ?_
      exact dw_j rfl (fun lv1 hv => k2 (x2 + (1 : Int32)) m lv1 (hv.1 _ rfl) (hv.2.1 _ rfl) (hv.2.2.1 _ rfl))
    · refine dw_g rfl ?_
      refine dg_s (pc' := 15) [.ref x0] rfl (fun _ => rfl) rfl ?_
      refine dg_s (pc' := 18) [.ref (x0 + 6)] rfl (fun _ => rfl) rfl ?_
      refine dg_s (pc' := 19) [.int x2, .ref (x0 + 6)] rfl (fun _ => rfl) rfl ?_
      refine dg_s (pc' := 21) [.int (17 : Int32), .int x2, .ref (x0 + 6)] rfl (fun _ => rfl) rfl ?_
      refine dg_s (pc' := 22) [.int (x2 * (17 : Int32)), .ref (x0 + 6)] rfl (fun _ => rfl) rfl ?_
      refine dg_s (pc' := 23) [.int x3, .int (x2 * (17 : Int32)), .ref (x0 + 6)] rfl (fun _ => rfl) rfl ?_
      refine dg_s (pc' := 24) [.int ((x2 * (17 : Int32)) + x3), .ref (x0 + 6)] rfl (fun _ => rfl) rfl ?_
      refine dg_s (pc' := 25) [.int (m.1 (x0 + 6) (Int32.toNatClampNeg ((x2 * (17 : Int32)) + x3)))] rfl (fun _ => rfl) rfl ?_
      refine dg_L (pc' := 27) [(4, .int (m.1 (x0 + 6) (Int32.toNatClampNeg ((x2 * (17 : Int32)) + x3)))), (0, .ref x0), (1, .int x1), (2, .int x2), (3, .int x3)] [] rfl (fun _ => rfl) rfl ?_
      refine dg_s (pc' := 29) [.int (m.1 (x0 + 6) (Int32.toNatClampNeg ((x2 * (17 : Int32)) + x3)))] rfl (fun _ => rfl) rfl ?_
      refine dg_s (pc' := 30) [.int (-1 : Int32), .int (m.1 (x0 + 6) (Int32.toNatClampNeg ((x2 * (17 : Int32)) + x3)))] rfl (fun _ => rfl) rfl ?_
      refine dw_if (fun t => Φ (Option.bind t (dc_bk (d_X5_findBeat_l9s x0 x1 x2)))) (¬ (Int32.toInt (m.1 (x0 + 6) (Int32.toNatClampNeg ((x2 * (17 : Int32)) + x3)))) = (-1)) [] 36 33 rfl (fun _ => rfl) (fun c1 => ?_) (fun c1 => ?_)
      · refine dw_g rfl ?_
        refine dg_s (pc' := 38) [.int (m.1 (x0 + 6) (Int32.toNatClampNeg ((x2 * (17 : Int32)) + x3)))] rfl (fun _ => rfl) rfl ?_
        refine dg_s (pc' := 39) [.ref x0, .int (m.1 (x0 + 6) (Int32.toNatClampNeg ((x2 * (17 : Int32)) + x3)))] rfl (fun _ => rfl) rfl ?_
        refine dg_s (pc' := 42) [.int (m.1 x0 2), .int (m.1 (x0 + 6) (Int32.toNatClampNeg ((x2 * (17 : Int32)) + x3)))] rfl (fun _ => rfl) rfl ?_
        refine dg_s (pc' := 43) [.int ((m.1 (x0 + 6) (Int32.toNatClampNeg ((x2 * (17 : Int32)) + x3))) * (m.1 x0 2))] rfl (fun _ => rfl) rfl ?_
        refine dg_s (pc' := 44) [.ref x0, .int ((m.1 (x0 + 6) (Int32.toNatClampNeg ((x2 * (17 : Int32)) + x3))) * (m.1 x0 2))] rfl (fun _ => rfl) rfl ?_
        refine dg_s (pc' := 47) [.int (m.1 x0 1), .int ((m.1 (x0 + 6) (Int32.toNatClampNeg ((x2 * (17 : Int32)) + x3))) * (m.1 x0 2))] rfl (fun _ => rfl) rfl ?_
        refine dg_s (pc' := 48) [.int x3, .int (m.1 x0 1), .int ((m.1 (x0 + 6) (Int32.toNatClampNeg ((x2 * (17 : Int32)) + x3))) * (m.1 x0 2))] rfl (fun _ => rfl) rfl ?_
        refine dg_s (pc' := 49) [.int ((m.1 x0 1) * x3), .int ((m.1 (x0 + 6) (Int32.toNatClampNeg ((x2 * (17 : Int32)) + x3))) * (m.1 x0 2))] rfl (fun _ => rfl) rfl ?_
        refine dg_s (pc' := 50) [.int (((m.1 (x0 + 6) (Int32.toNatClampNeg ((x2 * (17 : Int32)) + x3))) * (m.1 x0 2)) - ((m.1 x0 1) * x3))] rfl (fun _ => rfl) rfl ?_
        refine dg_L (pc' := 52) [(5, .int (((m.1 (x0 + 6) (Int32.toNatClampNeg ((x2 * (17 : Int32)) + x3))) * (m.1 x0 2)) - ((m.1 x0 1) * x3))), (4, .int (m.1 (x0 + 6) (Int32.toNatClampNeg ((x2 * (17 : Int32)) + x3)))), (0, .ref x0), (1, .int x1), (2, .int x2), (3, .int x3)] [] rfl (fun _ => rfl) rfl ?_
        refine dg_s (pc' := 53) [.ref x0] rfl (fun _ => rfl) rfl ?_
        refine dg_s (pc' := 56) [.int (m.1 x0 2)] rfl (fun _ => rfl) rfl ?_
        refine dw_if (fun t => Φ (Option.bind t (dc_bk (d_X5_findBeat_l9s x0 x1 x2)))) ((Int32.toInt (m.1 x0 2)) = 0) [] 64 59 rfl (fun _ => rfl) (fun c2 => ?_) (fun c2 => ?_)
        · refine dw_g rfl ?_
          refine dg_s (pc' := 65) [.ref x0] rfl (fun _ => rfl) rfl ?_
          refine dg_s (pc' := 67) [.int (m.1 (x0 + 6) (Int32.toNatClampNeg ((x2 * (17 : Int32)) + x3))), .ref x0] rfl (fun _ => rfl) rfl ?_
          refine dg_m (pc' := 70) (dc_wi m x0 1 (m.1 (x0 + 6) (Int32.toNatClampNeg ((x2 * (17 : Int32)) + x3)))) [] rfl (fun _ => rfl) rfl ?_
          refine dg_s (pc' := 71) [.ref x0] rfl (fun _ => rfl) rfl ?_
          refine dg_s (pc' := 72) [.int x3, .ref x0] rfl (fun _ => rfl) rfl ?_
          refine dg_m (pc' := 75) (dc_wi (dc_wi m x0 1 (m.1 (x0 + 6) (Int32.toNatClampNeg ((x2 * (17 : Int32)) + x3)))) x0 2 x3) [] rfl (fun _ => rfl) rfl ?_
          refine dg_s (pc' := 76) [.ref x0] rfl (fun _ => rfl) rfl ?_
          refine dg_s (pc' := 77) [.int (0 : Int32), .ref x0] rfl (fun _ => rfl) rfl ?_
          refine dw_m (pc' := 80) (dc_wi (dc_wi (dc_wi m x0 1 (m.1 (x0 + 6) (Int32.toNatClampNeg ((x2 * (17 : Int32)) + x3)))) x0 2 x3) x0 3 (0 : Int32)) [] rfl (fun _ => rfl) ?_
          exact dw_j rfl (fun lv1 hv => k_X5_findBeat_b80 (Φ := (fun t => Φ (Option.bind t (dc_bk (d_X5_findBeat_l9s x0 x1 x2))))) x0 x1 x2 x3 (((m.1 (x0 + 6) (Int32.toNatClampNeg ((x2 * (17 : Int32)) + x3))) * (m.1 x0 2)) - ((m.1 x0 1) * x3)) (dc_wi (dc_wi (dc_wi m x0 1 (m.1 (x0 + 6) (Int32.toNatClampNeg ((x2 * (17 : Int32)) + x3)))) x0 2 x3) x0 3 (0 : Int32)) (fun _b => kR _b) ih k2 (hv.1 _ rfl) (hv.2.1 _ rfl) (hv.2.2.1 _ rfl) (hv.2.2.2.1 _ rfl) (hv.2.2.2.2.1 _ rfl))
        · refine dw_g rfl ?_
          refine dg_s (pc' := 61) [.int (((m.1 (x0 + 6) (Int32.toNatClampNeg ((x2 * (17 : Int32)) + x3))) * (m.1 x0 2)) - ((m.1 x0 1) * x3))] rfl (fun _ => rfl) rfl ?_
          refine dw_if (fun t => Φ (Option.bind t (dc_bk (d_X5_findBeat_l9s x0 x1 x2)))) ((Int32.toInt (((m.1 (x0 + 6) (Int32.toNatClampNeg ((x2 * (17 : Int32)) + x3))) * (m.1 x0 2)) - ((m.1 x0 1) * x3))) ≤ 0) [] 80 64 rfl (fun _ => rfl) (fun c3 => ?_) (fun c3 => ?_)
          · exact dw_j rfl (fun lv1 hv => k_X5_findBeat_b80 (Φ := (fun t => Φ (Option.bind t (dc_bk (d_X5_findBeat_l9s x0 x1 x2))))) x0 x1 x2 x3 (((m.1 (x0 + 6) (Int32.toNatClampNeg ((x2 * (17 : Int32)) + x3))) * (m.1 x0 2)) - ((m.1 x0 1) * x3)) m (fun _b => kR _b) ih k2 (hv.1 _ rfl) (hv.2.1 _ rfl) (hv.2.2.1 _ rfl) (hv.2.2.2.1 _ rfl) (hv.2.2.2.2.1 _ rfl))
          · refine dw_g rfl ?_
            refine dg_s (pc' := 65) [.ref x0] rfl (fun _ => rfl) rfl ?_
            refine dg_s (pc' := 67) [.int (m.1 (x0 + 6) (Int32.toNatClampNeg ((x2 * (17 : Int32)) + x3))), .ref x0] rfl (fun _ => rfl) rfl ?_
            refine dg_m (pc' := 70) (dc_wi m x0 1 (m.1 (x0 + 6) (Int32.toNatClampNeg ((x2 * (17 : Int32)) + x3)))) [] rfl (fun _ => rfl) rfl ?_
            refine dg_s (pc' := 71) [.ref x0] rfl (fun _ => rfl) rfl ?_
            refine dg_s (pc' := 72) [.int x3, .ref x0] rfl (fun _ => rfl) rfl ?_
            refine dg_m (pc' := 75) (dc_wi (dc_wi m x0 1 (m.1 (x0 + 6) (Int32.toNatClampNeg ((x2 * (17 : Int32)) + x3)))) x0 2 x3) [] rfl (fun _ => rfl) rfl ?_
            refine dg_s (pc' := 76) [.ref x0] rfl (fun _ => rfl) rfl ?_
            refine dg_s (pc' := 77) [.int (0 : Int32), .ref x0] rfl (fun _ => rfl) rfl ?_
            refine dw_m (pc' := 80) (dc_wi (dc_wi (dc_wi m x0 1 (m.1 (x0 + 6) (Int32.toNatClampNeg ((x2 * (17 : Int32)) + x3)))) x0 2 x3) x0 3 (0 : Int32)) [] rfl (fun _ => rfl) ?_
            exact dw_j rfl (fun lv1 hv => k_X5_findBeat_b80 (Φ := (fun t => Φ (Option.bind t (dc_bk (d_X5_findBeat_l9s x0 x1 x2))))) x0 x1 x2 x3 (((m.1 (x0 + 6) (Int32.toNatClampNeg ((x2 * (17 : Int32)) + x3))) * (m.1 x0 2)) - ((m.1 x0 1) * x3)) (dc_wi (dc_wi (dc_wi m x0 1 (m.1 (x0 + 6) (Int32.toNatClampNeg ((x2 * (17 : Int32)) + x3)))) x0 2 x3) x0 3 (0 : Int32)) (fun _b => kR _b) ih k2 (hv.1 _ rfl) (hv.2.1 _ rfl) (hv.2.2.1 _ rfl) (hv.2.2.2.1 _ rfl) (hv.2.2.2.2.1 _ rfl))
      · refine dw_g rfl ?_
        refine dg_s (pc' := 97) [] rfl (fun _ => rfl) rfl ?_
        refine dg_L (pc' := 100) [(3, .int (x3 + (1 : Int32))), (4, .int (m.1 (x0 + 6) (Int32.toNatClampNeg ((x2 * (17 : Int32)) + x3)))), (0, .ref x0), (1, .int x1), (2, .int x2)] [] rfl (fun _ => rfl) rfl ?_
        refine dw_s (pc' := 9) [] rfl (fun _ => rfl) ?_
        exact dw_j rfl (fun lv1 hv => ih (x3 + (1 : Int32)) m lv1 (hv.1 _ rfl) (hv.2.1 _ rfl) (hv.2.2.1 _ rfl) (hv.2.2.2.1 _ rfl))
noncomputable def d_X5_findBeat_l2b (x0 : Nat) (x1 : Int32) (x2 : Int32) (m : dc_M) : Option ((Int32 × dc_M) ⊕ dc_M) :=
  (if (Int32.toInt x1) ≤ (Int32.toInt x2) then ((d_X5_findBeat_b109 x0 m).map (fun z => Sum.inr (z))) else (d_X5_findBeat_l9 x0 x1 x2 (1 : Int32) m))
noncomputable def d_X5_findBeat_l2s (x0 : Nat) (x1 : Int32) : (Int32 × dc_M) → Option ((Int32 × dc_M) ⊕ dc_M) := fun s => d_X5_findBeat_l2b x0 x1 s.1 s.2
noncomputable def d_X5_findBeat_l2 (x0 : Nat) (x1 : Int32) (x2 : Int32) (m : dc_M) : Option dc_M := dc_lp (d_X5_findBeat_l2s x0 x1) (x2, m)
set_option maxHeartbeats 8000000 in
theorem k_X5_findBeat_l2 {u : Nat} {Φ : (Option dc_M) → Option Value → dc_M → Prop} (x0 : Nat) (x1 : Int32) (kR : ∀  (m : dc_M), Φ (some (m)) (none) m) : ∀ (N : Nat), ∀ (x2 : Int32) (m : dc_M) (lv : ab_L), ab_lk lv 0 = some (.ref x0) → ab_lk lv 1 = some (.int x1) → ab_lk lv 2 = some (.int x2) → dc_pv u N ab_M_X5_findBeat 2 lv [] m (Φ (d_X5_findBeat_l2 x0 x1 x2 m)) := by
  intro N
  induction N with
  | zero => intros; exact dc_pv_zero
  | succ N ih =>
    intro x2 m lv f0 f1 f2
    refine dc_ok (C := C_X5_findBeat) (S := S_X5_findBeat) CO_X5_findBeat 400 2 [(0, .ref x0), (1, .int x1), (2, .int x2)] lv [] m (dc_sub_cons f0 (dc_sub_cons f1 (dc_sub_cons f2 (dc_sub_nil)))) ?_
    unfold d_X5_findBeat_l2
    rw [dc_lp_eq]
    show (fun t x => dc_lf u N ab_M_X5_findBeat (Φ (Option.bind t (dc_bk (d_X5_findBeat_l2s x0 x1)))) x) (d_X5_findBeat_l2b x0 x1 x2 m) _
    dsimp only
    unfold d_X5_findBeat_l2b
    refine dg_s (pc' := 3) [.int x2] rfl (fun _ => rfl) rfl ?_
    refine dg_s (pc' := 4) [.int x1, .int x2] rfl (fun _ => rfl) rfl ?_
    refine dw_if (fun t => Φ (Option.bind t (dc_bk (d_X5_findBeat_l2s x0 x1)))) ((Int32.toInt x1) ≤ (Int32.toInt x2)) [] 109 7 rfl (fun _ => rfl) (fun c0 => ?_) (fun c0 => ?_)
    · exact dw_j rfl (fun lv1 hv => k_X5_findBeat_b109 (Φ := (fun t => Φ (Option.bind (t.map (fun z => Sum.inr (z))) (dc_bk (d_X5_findBeat_l2s x0 x1))))) x0 m (fun _b => kR _b)  (hv.1 _ rfl))
    · refine dw_g rfl ?_
      refine dg_s (pc' := 8) [.int (1 : Int32)] rfl (fun _ => rfl) rfl ?_
      refine dw_L (pc' := 9) [(3, .int (1 : Int32)), (0, .ref x0), (1, .int x1), (2, .int x2)] [] rfl (fun _ => rfl) ?_
      exact dw_j rfl (fun lv1 hv => k_X5_findBeat_l9 (Φ := (fun t => Φ (Option.bind t (dc_bk (d_X5_findBeat_l2s x0 x1))))) x0 x1 x2 (fun _b => kR _b) N ih (1 : Int32) m lv1 (hv.1 _ rfl) (hv.2.1 _ rfl) (hv.2.2.1 _ rfl) (hv.2.2.2.1 _ rfl))
noncomputable def d_X5_findBeat (x0 : Nat) (x1 : Int32) (m : dc_M) : Option dc_M :=
  (d_X5_findBeat_l2 x0 x1 (0 : Int32) m)
set_option maxHeartbeats 8000000 in
theorem k_X5_findBeat {u : Nat} {N : Nat} {Φ : (Option dc_M) → Option Value → dc_M → Prop} (x0 : Nat) (x1 : Int32) (m : dc_M) (kR : ∀  (m : dc_M), Φ (some (m)) (none) m)  {lv : ab_L} (f0 : ab_lk lv 0 = some (.ref x0)) (f1 : ab_lk lv 1 = some (.int x1)) : dc_pv u N ab_M_X5_findBeat 0 lv [] m (Φ (d_X5_findBeat x0 x1 m)) := by
  refine dc_pv.mono (dc_ok (C := C_X5_findBeat) (S := S_X5_findBeat) CO_X5_findBeat 400 0 [(0, .ref x0), (1, .int x1)] lv [] m (dc_sub_cons f0 (dc_sub_cons f1 (dc_sub_nil))) ?_) (Nat.le_succ N)
  unfold d_X5_findBeat
  refine dg_s (pc' := 1) [.int (0 : Int32)] rfl (fun _ => rfl) rfl ?_
  refine dw_L (pc' := 2) [(2, .int (0 : Int32)), (0, .ref x0), (1, .int x1)] [] rfl (fun _ => rfl) ?_
  exact dw_j rfl (fun lv1 hv => k_X5_findBeat_l2 (Φ := (fun t => Φ t)) x0 x1 (fun _b => kR _b) N  (0 : Int32) m lv1 (hv.1 _ rfl) (hv.2.1 _ rfl) (hv.2.2.1 _ rfl))
noncomputable def H_X5_findBeat : dc_H := fun As m k => match As with
  | [.ref x0, .int x1] => (d_X5_findBeat x0 x1 m).bind (fun q => k (none) q)
  | _ => dc_kz
theorem H_X5_findBeat_ok {u : Nat} : dc_cok u 71 H_X5_findBeat := fun M' hG N As m k P hz hP => by
  obtain rfl : ab_M_X5_findBeat = M' := Option.some.inj hG
  unfold H_X5_findBeat at hP
  split at hP
  · rename_i x0 x1
    exact dc_pv.imp (k_X5_findBeat (Φ := fun (t : Option dc_M) r m' => P (t.bind (fun q => k (none) q)) → P (k r m')) x0 x1 m (fun _ h => h) rfl rfl) (fun r m' h => h hP)
  · exact absurd hP hz
def C_J9_max_7cf53 : List (Nat × dc_H) := []
theorem CO_J9_max_7cf53 {u : Nat} : dc_CO u C_J9_max_7cf53 := dc_CO_nil
def S_J9_max_7cf53 : List (Nat × List Nat) := []
def d_J9_max_7cf53 (x0 : Int32) (x1 : Int32) (m : dc_M) : Int32 :=
  (if (Int32.toInt x0) < (Int32.toInt x1) then x1 else x0)
set_option maxHeartbeats 8000000 in
theorem k_J9_max_7cf53 {u : Nat} {N : Nat} {Φ : Int32 → Option Value → dc_M → Prop} (x0 : Int32) (x1 : Int32) (m : dc_M) (kR : ∀ (v : Int32), Φ (v) (some (.int v)) m)  {lv : ab_L} (f0 : ab_lk lv 0 = some (.int x0)) (f1 : ab_lk lv 1 = some (.int x1)) : dc_pv u N ab_M_J9_max_7cf53 0 lv [] m (Φ (d_J9_max_7cf53 x0 x1 m)) := by
  refine dc_pv.mono (dc_ok (C := C_J9_max_7cf53) (S := S_J9_max_7cf53) CO_J9_max_7cf53 400 0 [(0, .int x0), (1, .int x1)] lv [] m (dc_sub_cons f0 (dc_sub_cons f1 (dc_sub_nil))) ?_) (Nat.le_succ N)
  unfold d_J9_max_7cf53
  refine dg_s (pc' := 1) [.int x0] rfl (fun _ => rfl) rfl ?_
  refine dg_s (pc' := 2) [.int x1, .int x0] rfl (fun _ => rfl) rfl ?_
  refine dw_if (fun t => Φ t) ((Int32.toInt x0) < (Int32.toInt x1)) [] 9 5 rfl (fun _ => rfl) (fun c0 => ?_) (fun c0 => ?_)
  · refine dw_g rfl ?_
    refine dg_s (pc' := 10) [.int x1] rfl (fun _ => rfl) rfl ?_
    exact dw_r (some (.inl (some (.int x1), m))) rfl (fun _ => rfl) (kR _)
  · refine dw_g rfl ?_
    refine dg_s (pc' := 6) [.int x0] rfl (fun _ => rfl) rfl ?_
    refine dg_s (pc' := 10) [.int x0] rfl (fun _ => rfl) rfl ?_
    exact dw_r (some (.inl (some (.int x0), m))) rfl (fun _ => rfl) (kR _)
def H_J9_max_7cf53 : dc_H := fun As m k => match As with
  | [.int x0, .int x1] => k (some (.int (d_J9_max_7cf53 x0 x1 m))) m
  | _ => dc_kz
theorem H_J9_max_7cf53_ok {u : Nat} : dc_cok u 230 H_J9_max_7cf53 := fun M' hG N As m k P hz hP => by
  obtain rfl : ab_M_J9_max_7cf53 = M' := Option.some.inj hG
  unfold H_J9_max_7cf53 at hP
  split at hP
  · rename_i x0 x1
    exact dc_pv.imp (k_J9_max_7cf53 (Φ := fun (t : Int32) r m' => P (k (some (.int t)) m) → P (k r m')) x0 x1 m (fun _  h => h) rfl rfl) (fun r m' h => h hP)
  · exact absurd hP hz
def C_X5_lengthen : List (Nat × dc_H) := [(230, H_J9_max_7cf53)]
theorem CO_X5_lengthen {u : Nat} : dc_CO u C_X5_lengthen := dc_CO_cons H_J9_max_7cf53_ok (dc_CO_nil)
def S_X5_lengthen : List (Nat × List Nat) := []
def d_X5_lengthen (x0 : Nat) (x1 : Nat) (x2 : Nat) (x3 : Int32) (m : dc_M) : dc_M :=
  (if (Int32.toInt (m.1 x1 (Int32.toNatClampNeg (m.1 (x0 + 1) (Int32.toNatClampNeg x3))))) = (-1) then m else (dc_wi m (m.2.2.1 x0 8) (Int32.toNatClampNeg (m.1 (x0 + 2) (Int32.toNatClampNeg x3))) (d_J9_max_7cf53 (m.1 (m.2.2.1 x0 8) (Int32.toNatClampNeg (m.1 (x0 + 2) (Int32.toNatClampNeg x3)))) ((m.1 x1 (Int32.toNatClampNeg (m.1 (x0 + 1) (Int32.toNatClampNeg x3)))) + (m.1 (x2 + 8) (Int32.toNatClampNeg (m.1 (x0 + 1) (Int32.toNatClampNeg x3))))) m)))
set_option maxHeartbeats 8000000 in
theorem k_X5_lengthen {u : Nat} {N : Nat} {Φ : dc_M → Option Value → dc_M → Prop} (x0 : Nat) (x1 : Nat) (x2 : Nat) (x3 : Int32) (m : dc_M) (kR : ∀  (m : dc_M), Φ (m) (none) m)  {lv : ab_L} (f0 : ab_lk lv 0 = some (.ref x0)) (f1 : ab_lk lv 1 = some (.ref x1)) (f2 : ab_lk lv 2 = some (.ref x2)) (f3 : ab_lk lv 3 = some (.int x3)) : dc_pv u N ab_M_X5_lengthen 0 lv [] m (Φ (d_X5_lengthen x0 x1 x2 x3 m)) := by
  refine dc_pv.mono (dc_ok (C := C_X5_lengthen) (S := S_X5_lengthen) CO_X5_lengthen 400 0 [(0, .ref x0), (1, .ref x1), (2, .ref x2), (3, .int x3)] lv [] m (dc_sub_cons f0 (dc_sub_cons f1 (dc_sub_cons f2 (dc_sub_cons f3 (dc_sub_nil))))) ?_) (Nat.le_succ N)
  unfold d_X5_lengthen
  refine dg_s (pc' := 1) [.ref x0] rfl (fun _ => rfl) rfl ?_
  refine dg_s (pc' := 4) [.ref (x0 + 1)] rfl (fun _ => rfl) rfl ?_
  refine dg_s (pc' := 5) [.int x3, .ref (x0 + 1)] rfl (fun _ => rfl) rfl ?_
  refine dg_s (pc' := 6) [.int (m.1 (x0 + 1) (Int32.toNatClampNeg x3))] rfl (fun _ => rfl) rfl ?_
  refine dg_L (pc' := 8) [(4, .int (m.1 (x0 + 1) (Int32.toNatClampNeg x3))), (0, .ref x0), (1, .ref x1), (2, .ref x2), (3, .int x3)] [] rfl (fun _ => rfl) rfl ?_
  refine dg_s (pc' := 9) [.ref x1] rfl (fun _ => rfl) rfl ?_
  refine dg_s (pc' := 11) [.int (m.1 (x0 + 1) (Int32.toNatClampNeg x3)), .ref x1] rfl (fun _ => rfl) rfl ?_
  refine dg_s (pc' := 12) [.int (m.1 x1 (Int32.toNatClampNeg (m.1 (x0 + 1) (Int32.toNatClampNeg x3))))] rfl (fun _ => rfl) rfl ?_
  refine dg_s (pc' := 13) [.int (-1 : Int32), .int (m.1 x1 (Int32.toNatClampNeg (m.1 (x0 + 1) (Int32.toNatClampNeg x3))))] rfl (fun _ => rfl) rfl ?_
  refine dw_if (fun t => Φ t) ((Int32.toInt (m.1 x1 (Int32.toNatClampNeg (m.1 (x0 + 1) (Int32.toNatClampNeg x3))))) = (-1)) [] 53 16 rfl (fun _ => rfl) (fun c0 => ?_) (fun c0 => ?_)
  · refine dw_g rfl ?_
    exact dw_r (some (.inl (none, m))) rfl (fun _ => rfl) (kR _)
  · refine dw_g rfl ?_
    refine dg_s (pc' := 17) [.ref x0] rfl (fun _ => rfl) rfl ?_
    refine dg_s (pc' := 20) [.ref (m.2.2.1 x0 8)] rfl (fun _ => rfl) rfl ?_
    refine dg_s (pc' := 21) [.ref x0, .ref (m.2.2.1 x0 8)] rfl (fun _ => rfl) rfl ?_
    refine dg_s (pc' := 24) [.ref (x0 + 2), .ref (m.2.2.1 x0 8)] rfl (fun _ => rfl) rfl ?_
    refine dg_s (pc' := 25) [.int x3, .ref (x0 + 2), .ref (m.2.2.1 x0 8)] rfl (fun _ => rfl) rfl ?_
    refine dg_s (pc' := 26) [.int (m.1 (x0 + 2) (Int32.toNatClampNeg x3)), .ref (m.2.2.1 x0 8)] rfl (fun _ => rfl) rfl ?_
    refine dg_s (pc' := 27) [.ref x0, .int (m.1 (x0 + 2) (Int32.toNatClampNeg x3)), .ref (m.2.2.1 x0 8)] rfl (fun _ => rfl) rfl ?_
    refine dg_s (pc' := 30) [.ref (m.2.2.1 x0 8), .int (m.1 (x0 + 2) (Int32.toNatClampNeg x3)), .ref (m.2.2.1 x0 8)] rfl (fun _ => rfl) rfl ?_
    refine dg_s (pc' := 31) [.ref x0, .ref (m.2.2.1 x0 8), .int (m.1 (x0 + 2) (Int32.toNatClampNeg x3)), .ref (m.2.2.1 x0 8)] rfl (fun _ => rfl) rfl ?_
    refine dg_s (pc' := 34) [.ref (x0 + 2), .ref (m.2.2.1 x0 8), .int (m.1 (x0 + 2) (Int32.toNatClampNeg x3)), .ref (m.2.2.1 x0 8)] rfl (fun _ => rfl) rfl ?_
    refine dg_s (pc' := 35) [.int x3, .ref (x0 + 2), .ref (m.2.2.1 x0 8), .int (m.1 (x0 + 2) (Int32.toNatClampNeg x3)), .ref (m.2.2.1 x0 8)] rfl (fun _ => rfl) rfl ?_
    refine dg_s (pc' := 36) [.int (m.1 (x0 + 2) (Int32.toNatClampNeg x3)), .ref (m.2.2.1 x0 8), .int (m.1 (x0 + 2) (Int32.toNatClampNeg x3)), .ref (m.2.2.1 x0 8)] rfl (fun _ => rfl) rfl ?_
    refine dg_s (pc' := 37) [.int (m.1 (m.2.2.1 x0 8) (Int32.toNatClampNeg (m.1 (x0 + 2) (Int32.toNatClampNeg x3)))), .int (m.1 (x0 + 2) (Int32.toNatClampNeg x3)), .ref (m.2.2.1 x0 8)] rfl (fun _ => rfl) rfl ?_
    refine dg_s (pc' := 38) [.ref x1, .int (m.1 (m.2.2.1 x0 8) (Int32.toNatClampNeg (m.1 (x0 + 2) (Int32.toNatClampNeg x3)))), .int (m.1 (x0 + 2) (Int32.toNatClampNeg x3)), .ref (m.2.2.1 x0 8)] rfl (fun _ => rfl) rfl ?_
    refine dg_s (pc' := 40) [.int (m.1 (x0 + 1) (Int32.toNatClampNeg x3)), .ref x1, .int (m.1 (m.2.2.1 x0 8) (Int32.toNatClampNeg (m.1 (x0 + 2) (Int32.toNatClampNeg x3)))), .int (m.1 (x0 + 2) (Int32.toNatClampNeg x3)), .ref (m.2.2.1 x0 8)] rfl (fun _ => rfl) rfl ?_
    refine dg_s (pc' := 41) [.int (m.1 x1 (Int32.toNatClampNeg (m.1 (x0 + 1) (Int32.toNatClampNeg x3)))), .int (m.1 (m.2.2.1 x0 8) (Int32.toNatClampNeg (m.1 (x0 + 2) (Int32.toNatClampNeg x3)))), .int (m.1 (x0 + 2) (Int32.toNatClampNeg x3)), .ref (m.2.2.1 x0 8)] rfl (fun _ => rfl) rfl ?_
    refine dg_s (pc' := 42) [.ref x2, .int (m.1 x1 (Int32.toNatClampNeg (m.1 (x0 + 1) (Int32.toNatClampNeg x3)))), .int (m.1 (m.2.2.1 x0 8) (Int32.toNatClampNeg (m.1 (x0 + 2) (Int32.toNatClampNeg x3)))), .int (m.1 (x0 + 2) (Int32.toNatClampNeg x3)), .ref (m.2.2.1 x0 8)] rfl (fun _ => rfl) rfl ?_
    refine dg_s (pc' := 45) [.ref (x2 + 8), .int (m.1 x1 (Int32.toNatClampNeg (m.1 (x0 + 1) (Int32.toNatClampNeg x3)))), .int (m.1 (m.2.2.1 x0 8) (Int32.toNatClampNeg (m.1 (x0 + 2) (Int32.toNatClampNeg x3)))), .int (m.1 (x0 + 2) (Int32.toNatClampNeg x3)), .ref (m.2.2.1 x0 8)] rfl (fun _ => rfl) rfl ?_
    refine dg_s (pc' := 47) [.int (m.1 (x0 + 1) (Int32.toNatClampNeg x3)), .ref (x2 + 8), .int (m.1 x1 (Int32.toNatClampNeg (m.1 (x0 + 1) (Int32.toNatClampNeg x3)))), .int (m.1 (m.2.2.1 x0 8) (Int32.toNatClampNeg (m.1 (x0 + 2) (Int32.toNatClampNeg x3)))), .int (m.1 (x0 + 2) (Int32.toNatClampNeg x3)), .ref (m.2.2.1 x0 8)] rfl (fun _ => rfl) rfl ?_
    refine dg_s (pc' := 48) [.int (m.1 (x2 + 8) (Int32.toNatClampNeg (m.1 (x0 + 1) (Int32.toNatClampNeg x3)))), .int (m.1 x1 (Int32.toNatClampNeg (m.1 (x0 + 1) (Int32.toNatClampNeg x3)))), .int (m.1 (m.2.2.1 x0 8) (Int32.toNatClampNeg (m.1 (x0 + 2) (Int32.toNatClampNeg x3)))), .int (m.1 (x0 + 2) (Int32.toNatClampNeg x3)), .ref (m.2.2.1 x0 8)] rfl (fun _ => rfl) rfl ?_
    refine dg_s (pc' := 49) [.int ((m.1 x1 (Int32.toNatClampNeg (m.1 (x0 + 1) (Int32.toNatClampNeg x3)))) + (m.1 (x2 + 8) (Int32.toNatClampNeg (m.1 (x0 + 1) (Int32.toNatClampNeg x3))))), .int (m.1 (m.2.2.1 x0 8) (Int32.toNatClampNeg (m.1 (x0 + 2) (Int32.toNatClampNeg x3)))), .int (m.1 (x0 + 2) (Int32.toNatClampNeg x3)), .ref (m.2.2.1 x0 8)] rfl (fun _ => rfl) rfl ?_
    refine dg_s (pc' := 52) [.int (d_J9_max_7cf53 (m.1 (m.2.2.1 x0 8) (Int32.toNatClampNeg (m.1 (x0 + 2) (Int32.toNatClampNeg x3)))) ((m.1 x1 (Int32.toNatClampNeg (m.1 (x0 + 1) (Int32.toNatClampNeg x3)))) + (m.1 (x2 + 8) (Int32.toNatClampNeg (m.1 (x0 + 1) (Int32.toNatClampNeg x3))))) m), .int (m.1 (x0 + 2) (Int32.toNatClampNeg x3)), .ref (m.2.2.1 x0 8)] rfl (fun _ => rfl) rfl ?_
    refine dg_m (pc' := 53) (dc_wi m (m.2.2.1 x0 8) (Int32.toNatClampNeg (m.1 (x0 + 2) (Int32.toNatClampNeg x3))) (d_J9_max_7cf53 (m.1 (m.2.2.1 x0 8) (Int32.toNatClampNeg (m.1 (x0 + 2) (Int32.toNatClampNeg x3)))) ((m.1 x1 (Int32.toNatClampNeg (m.1 (x0 + 1) (Int32.toNatClampNeg x3)))) + (m.1 (x2 + 8) (Int32.toNatClampNeg (m.1 (x0 + 1) (Int32.toNatClampNeg x3))))) m)) [] rfl (fun _ => rfl) rfl ?_
    exact dw_r (some (.inl (none, (dc_wi m (m.2.2.1 x0 8) (Int32.toNatClampNeg (m.1 (x0 + 2) (Int32.toNatClampNeg x3))) (d_J9_max_7cf53 (m.1 (m.2.2.1 x0 8) (Int32.toNatClampNeg (m.1 (x0 + 2) (Int32.toNatClampNeg x3)))) ((m.1 x1 (Int32.toNatClampNeg (m.1 (x0 + 1) (Int32.toNatClampNeg x3)))) + (m.1 (x2 + 8) (Int32.toNatClampNeg (m.1 (x0 + 1) (Int32.toNatClampNeg x3))))) m))))) rfl (fun _ => rfl) (kR _)
def H_X5_lengthen : dc_H := fun As m k => match As with
  | [.ref x0, .ref x1, .ref x2, .int x3] => dc_let (d_X5_lengthen x0 x1 x2 x3 m) (fun q => k (none) q)
  | _ => dc_kz
theorem H_X5_lengthen_ok {u : Nat} : dc_cok u 70 H_X5_lengthen := fun M' hG N As m k P hz hP => by
  obtain rfl : ab_M_X5_lengthen = M' := Option.some.inj hG
  unfold H_X5_lengthen at hP
  split at hP
  · rename_i x0 x1 x2 x3
    exact dc_pv.imp (k_X5_lengthen (Φ := fun (t : dc_M) r m' => P (dc_let t (fun q => k (none) q)) → P (k r m')) x0 x1 x2 x3 m (fun _ h => h) rfl rfl rfl rfl) (fun r m' h => h hP)
  · exact absurd hP hz
def C_X5_goOnWithoutToken : List (Nat × dc_H) := [(70, H_X5_lengthen)]
theorem CO_X5_goOnWithoutToken {u : Nat} : dc_CO u C_X5_goOnWithoutToken := dc_CO_cons H_X5_lengthen_ok (dc_CO_nil)
def S_X5_goOnWithoutToken : List (Nat × List Nat) := [(2, [0, 1, 2]), (32, [0, 1, 2, 3, 4])]
noncomputable def d_X5_goOnWithoutToken_l32b (x0 : Nat) (x1 : Nat) (x2 : Int32) (x3 : Int32) (x4 : Int32) (m : dc_M) : Option ((Int32 × dc_M) ⊕ ((Int32 × dc_M) ⊕ dc_M)) :=
  (if (Int32.toInt (m.1 x1 2)) ≤ (Int32.toInt x4) then some (Sum.inr (Sum.inl ((x2 + (1 : Int32)), m))) else (if (Int32.toInt (x3 >>> (x4 &&& 31))) = 0 then some (Sum.inr (Sum.inl ((x2 + (1 : Int32)), m))) else (if (Int32.toInt ((x3 >>> (x4 &&& 31)) &&& (1 : Int32))) = 0 then some (Sum.inl ((x4 + (1 : Int32)), m)) else (dc_let (d_X5_lengthen x0 (m.2.2.1 x0 8) x1 x4 m) (fun q1 => some (Sum.inl ((x4 + (1 : Int32)), q1)))))))
noncomputable def d_X5_goOnWithoutToken_l32s (x0 : Nat) (x1 : Nat) (x2 : Int32) (x3 : Int32) : (Int32 × dc_M) → Option ((Int32 × dc_M) ⊕ ((Int32 × dc_M) ⊕ dc_M)) := fun s => d_X5_goOnWithoutToken_l32b x0 x1 x2 x3 s.1 s.2
noncomputable def d_X5_goOnWithoutToken_l32 (x0 : Nat) (x1 : Nat) (x2 : Int32) (x3 : Int32) (x4 : Int32) (m : dc_M) : Option ((Int32 × dc_M) ⊕ dc_M) := dc_lp (d_X5_goOnWithoutToken_l32s x0 x1 x2 x3) (x4, m)
set_option maxHeartbeats 8000000 in
theorem k_X5_goOnWithoutToken_l32 {u : Nat} {Φ : (Option ((Int32 × dc_M) ⊕ dc_M)) → Option Value → dc_M → Prop} (x0 : Nat) (x1 : Nat) (x2 : Int32) (x3 : Int32) (kR : ∀  (m : dc_M), Φ (some (Sum.inr (m))) (none) m) : ∀ (N : Nat), (∀ (x2 : Int32) (m : dc_M) (lv : ab_L), ab_lk lv 0 = some (.ref x0) → ab_lk lv 1 = some (.ref x1) → ab_lk lv 2 = some (.int x2) →  dc_pv u N ab_M_X5_goOnWithoutToken 2 lv [] m (Φ (some (Sum.inl (x2, m))))) → ∀ (x4 : Int32) (m : dc_M) (lv : ab_L), ab_lk lv 0 = some (.ref x0) → ab_lk lv 1 = some (.ref x1) → ab_lk lv 2 = some (.int x2) → ab_lk lv 3 = some (.int x3) → ab_lk lv 4 = some (.int x4) → dc_pv u N ab_M_X5_goOnWithoutToken 32 lv [] m (Φ (d_X5_goOnWithoutToken_l32 x0 x1 x2 x3 x4 m)) := by
  intro N
  induction N with
  | zero => intros; exact dc_pv_zero
  | succ N ih =>
    intro k2 x4 m lv f0 f1 f2 f3 f4
    have k2 := fun a0 a1 a2 a3 a4 a5 => (k2 a0 a1 a2 a3 a4 a5).mono (Nat.le_succ N)
    have ih := ih k2
    refine dc_ok (C := C_X5_goOnWithoutToken) (S := S_X5_goOnWithoutToken) CO_X5_goOnWithoutToken 400 32 [(0, .ref x0), (1, .ref x1), (2, .int x2), (3, .int x3), (4, .int x4)] lv [] m (dc_sub_cons f0 (dc_sub_cons f1 (dc_sub_cons f2 (dc_sub_cons f3 (dc_sub_cons f4 (dc_sub_nil)))))) ?_
    unfold d_X5_goOnWithoutToken_l32
    rw [dc_lp_eq]
    show (fun t x => dc_lf u N ab_M_X5_goOnWithoutToken (Φ (Option.bind t (dc_bk (d_X5_goOnWithoutToken_l32s x0 x1 x2 x3)))) x) (d_X5_goOnWithoutToken_l32b x0 x1 x2 x3 x4 m) _
    dsimp only
    unfold d_X5_goOnWithoutToken_l32b
    refine dg_s (pc' := 34) [.int x4] rfl (fun _ => rfl) rfl ?_
    refine dg_s (pc' := 35) [.ref x1, .int x4] rfl (fun _ => rfl) rfl ?_
    refine dg_s (pc' := 38) [.int (m.1 x1 2), .int x4] rfl (fun _ => rfl) rfl ?_
    refine dw_if (fun t => Φ (Option.bind t (dc_bk (d_X5_goOnWithoutToken_l32s x0 x1 x2 x3)))) ((Int32.toInt (m.1 x1 2)) ≤ (Int32.toInt x4)) [] 74 41 rfl (fun _ => rfl) (fun c0 => ?_) (fun c0 => ?_)
    · refine dw_g rfl ?_
      refine dg_L (pc' := 77) [(2, .int (x2 + (1 : Int32))), (0, .ref x0), (1, .ref x1), (3, .int x3), (4, .int x4)] [] rfl (fun _ => rfl) rfl ?_
      refine dw_s (pc' := 2) [] rfl (fun _ => rfl) ?_
      exact dw_j rfl (fun lv1 hv => k2 (x2 + (1 : Int32)) m lv1 (hv.1 _ rfl) (hv.2.1 _ rfl) (hv.2.2.1 _ rfl))
    · refine dw_g rfl ?_
      refine dg_s (pc' := 42) [.int x3] rfl (fun _ => rfl) rfl ?_
      refine dg_s (pc' := 44) [.int x4, .int x3] rfl (fun _ => rfl) rfl ?_
      refine dg_s (pc' := 45) [.int (x3 >>> (x4 &&& 31))] rfl (fun _ => rfl) rfl ?_
      refine dw_if (fun t => Φ (Option.bind t (dc_bk (d_X5_goOnWithoutToken_l32s x0 x1 x2 x3)))) ((Int32.toInt (x3 >>> (x4 &&& 31))) = 0) [] 74 48 rfl (fun _ => rfl) (fun c1 => ?_) (fun c1 => ?_)
      · refine dw_g rfl ?_
        refine dg_L (pc' := 77) [(2, .int (x2 + (1 : Int32))), (0, .ref x0), (1, .ref x1), (3, .int x3), (4, .int x4)] [] rfl (fun _ => rfl) rfl ?_
        refine dw_s (pc' := 2) [] rfl (fun _ => rfl) ?_
        exact dw_j rfl (fun lv1 hv => k2 (x2 + (1 : Int32)) m lv1 (hv.1 _ rfl) (hv.2.1 _ rfl) (hv.2.2.1 _ rfl))
      · refine dw_g rfl ?_
        refine dg_s (pc' := 49) [.int x3] rfl (fun _ => rfl) rfl ?_
        refine dg_s (pc' := 51) [.int x4, .int x3] rfl (fun _ => rfl) rfl ?_
        refine dg_s (pc' := 52) [.int (x3 >>> (x4 &&& 31))] rfl (fun _ => rfl) rfl ?_
        refine dg_s (pc' := 53) [.int (1 : Int32), .int (x3 >>> (x4 &&& 31))] rfl (fun _ => rfl) rfl ?_
        refine dg_s (pc' := 54) [.int ((x3 >>> (x4 &&& 31)) &&& (1 : Int32))] rfl (fun _ => rfl) rfl ?_
        refine dw_if (fun t => Φ (Option.bind t (dc_bk (d_X5_goOnWithoutToken_l32s x0 x1 x2 x3)))) ((Int32.toInt ((x3 >>> (x4 &&& 31)) &&& (1 : Int32))) = 0) [] 68 57 rfl (fun _ => rfl) (fun c2 => ?_) (fun c2 => ?_)
        · refine dw_g rfl ?_
          refine dg_L (pc' := 71) [(4, .int (x4 + (1 : Int32))), (0, .ref x0), (1, .ref x1), (2, .int x2), (3, .int x3)] [] rfl (fun _ => rfl) rfl ?_
          refine dw_s (pc' := 32) [] rfl (fun _ => rfl) ?_
          exact dw_j rfl (fun lv1 hv => ih (x4 + (1 : Int32)) m lv1 (hv.1 _ rfl) (hv.2.1 _ rfl) (hv.2.2.1 _ rfl) (hv.2.2.2.1 _ rfl) (hv.2.2.2.2.1 _ rfl))
        · refine dw_g rfl ?_
          refine dg_s (pc' := 58) [.ref x0] rfl (fun _ => rfl) rfl ?_
          refine dg_s (pc' := 59) [.ref x0, .ref x0] rfl (fun _ => rfl) rfl ?_
          refine dg_s (pc' := 62) [.ref (m.2.2.1 x0 8), .ref x0] rfl (fun _ => rfl) rfl ?_
          refine dg_s (pc' := 63) [.ref x1, .ref (m.2.2.1 x0 8), .ref x0] rfl (fun _ => rfl) rfl ?_
          refine dg_s (pc' := 65) [.int x4, .ref x1, .ref (m.2.2.1 x0 8), .ref x0] rfl (fun _ => rfl) rfl ?_
          refine dw_l (fun t => Φ (Option.bind t (dc_bk (d_X5_goOnWithoutToken_l32s x0 x1 x2 x3)))) (pc' := 68) (fun q1 => []) (fun q1 => q1) rfl (fun _ => rfl) (fun q1 => ?_)
          refine dw_g rfl ?_
          refine dg_L (pc' := 71) [(4, .int (x4 + (1 : Int32))), (0, .ref x0), (1, .ref x1), (2, .int x2), (3, .int x3)] [] rfl (fun _ => rfl) rfl ?_
          refine dw_s (pc' := 32) [] rfl (fun _ => rfl) ?_
          exact dw_j rfl (fun lv1 hv => ih (x4 + (1 : Int32)) q1 lv1 (hv.1 _ rfl) (hv.2.1 _ rfl) (hv.2.2.1 _ rfl) (hv.2.2.2.1 _ rfl) (hv.2.2.2.2.1 _ rfl))
noncomputable def d_X5_goOnWithoutToken_l2b (x0 : Nat) (x1 : Nat) (x2 : Int32) (m : dc_M) : Option ((Int32 × dc_M) ⊕ dc_M) :=
  (if (Int32.toInt (m.1 x0 7)) ≤ (Int32.toInt x2) then some (Sum.inr (m)) else (d_X5_goOnWithoutToken_l32 x0 x1 x2 ((m.1 (x1 + 7) (Int32.toNatClampNeg (m.1 (x0 + 3) (Int32.toNatClampNeg x2)))) &&& ((m.1 x1 13) ^^^ (-1 : Int32))) (0 : Int32) m))
noncomputable def d_X5_goOnWithoutToken_l2s (x0 : Nat) (x1 : Nat) : (Int32 × dc_M) → Option ((Int32 × dc_M) ⊕ dc_M) := fun s => d_X5_goOnWithoutToken_l2b x0 x1 s.1 s.2
noncomputable def d_X5_goOnWithoutToken_l2 (x0 : Nat) (x1 : Nat) (x2 : Int32) (m : dc_M) : Option dc_M := dc_lp (d_X5_goOnWithoutToken_l2s x0 x1) (x2, m)
set_option maxHeartbeats 8000000 in
theorem k_X5_goOnWithoutToken_l2 {u : Nat} {Φ : (Option dc_M) → Option Value → dc_M → Prop} (x0 : Nat) (x1 : Nat) (kR : ∀  (m : dc_M), Φ (some (m)) (none) m) : ∀ (N : Nat), ∀ (x2 : Int32) (m : dc_M) (lv : ab_L), ab_lk lv 0 = some (.ref x0) → ab_lk lv 1 = some (.ref x1) → ab_lk lv 2 = some (.int x2) → dc_pv u N ab_M_X5_goOnWithoutToken 2 lv [] m (Φ (d_X5_goOnWithoutToken_l2 x0 x1 x2 m)) := by
  intro N
  induction N with
  | zero => intros; exact dc_pv_zero
  | succ N ih =>
    intro x2 m lv f0 f1 f2
    refine dc_ok (C := C_X5_goOnWithoutToken) (S := S_X5_goOnWithoutToken) CO_X5_goOnWithoutToken 400 2 [(0, .ref x0), (1, .ref x1), (2, .int x2)] lv [] m (dc_sub_cons f0 (dc_sub_cons f1 (dc_sub_cons f2 (dc_sub_nil)))) ?_
    unfold d_X5_goOnWithoutToken_l2
    rw [dc_lp_eq]
    show (fun t x => dc_lf u N ab_M_X5_goOnWithoutToken (Φ (Option.bind t (dc_bk (d_X5_goOnWithoutToken_l2s x0 x1)))) x) (d_X5_goOnWithoutToken_l2b x0 x1 x2 m) _
    dsimp only
    unfold d_X5_goOnWithoutToken_l2b
    refine dg_s (pc' := 3) [.int x2] rfl (fun _ => rfl) rfl ?_
    refine dg_s (pc' := 4) [.ref x0, .int x2] rfl (fun _ => rfl) rfl ?_
    refine dg_s (pc' := 7) [.int (m.1 x0 7), .int x2] rfl (fun _ => rfl) rfl ?_
    refine dw_if (fun t => Φ (Option.bind t (dc_bk (d_X5_goOnWithoutToken_l2s x0 x1)))) ((Int32.toInt (m.1 x0 7)) ≤ (Int32.toInt x2)) [] 80 10 rfl (fun _ => rfl) (fun c0 => ?_) (fun c0 => ?_)
    · refine dw_g rfl ?_
      exact dw_r (some (.inl (none, m))) rfl (fun _ => rfl) (kR _)
    · refine dw_g rfl ?_
      refine dg_s (pc' := 11) [.ref x1] rfl (fun _ => rfl) rfl ?_
      refine dg_s (pc' := 14) [.ref (x1 + 7)] rfl (fun _ => rfl) rfl ?_
      refine dg_s (pc' := 15) [.ref x0, .ref (x1 + 7)] rfl (fun _ => rfl) rfl ?_
      refine dg_s (pc' := 18) [.ref (x0 + 3), .ref (x1 + 7)] rfl (fun _ => rfl) rfl ?_
      refine dg_s (pc' := 19) [.int x2, .ref (x0 + 3), .ref (x1 + 7)] rfl (fun _ => rfl) rfl ?_
      refine dg_s (pc' := 20) [.int (m.1 (x0 + 3) (Int32.toNatClampNeg x2)), .ref (x1 + 7)] rfl (fun _ => rfl) rfl ?_
      refine dg_s (pc' := 21) [.int (m.1 (x1 + 7) (Int32.toNatClampNeg (m.1 (x0 + 3) (Int32.toNatClampNeg x2))))] rfl (fun _ => rfl) rfl ?_
      refine dg_s (pc' := 22) [.ref x1, .int (m.1 (x1 + 7) (Int32.toNatClampNeg (m.1 (x0 + 3) (Int32.toNatClampNeg x2))))] rfl (fun _ => rfl) rfl ?_
      refine dg_s (pc' := 25) [.int (m.1 x1 13), .int (m.1 (x1 + 7) (Int32.toNatClampNeg (m.1 (x0 + 3) (Int32.toNatClampNeg x2))))] rfl (fun _ => rfl) rfl ?_
      refine dg_s (pc' := 26) [.int (-1 : Int32), .int (m.1 x1 13), .int (m.1 (x1 + 7) (Int32.toNatClampNeg (m.1 (x0 + 3) (Int32.toNatClampNeg x2))))] rfl (fun _ => rfl) rfl ?_
      refine dg_s (pc' := 27) [.int ((m.1 x1 13) ^^^ (-1 : Int32)), .int (m.1 (x1 + 7) (Int32.toNatClampNeg (m.1 (x0 + 3) (Int32.toNatClampNeg x2))))] rfl (fun _ => rfl) rfl ?_
      refine dg_s (pc' := 28) [.int ((m.1 (x1 + 7) (Int32.toNatClampNeg (m.1 (x0 + 3) (Int32.toNatClampNeg x2)))) &&& ((m.1 x1 13) ^^^ (-1 : Int32)))] rfl (fun _ => rfl) rfl ?_
      refine dg_L (pc' := 29) [(3, .int ((m.1 (x1 + 7) (Int32.toNatClampNeg (m.1 (x0 + 3) (Int32.toNatClampNeg x2)))) &&& ((m.1 x1 13) ^^^ (-1 : Int32)))), (0, .ref x0), (1, .ref x1), (2, .int x2)] [] rfl (fun _ => rfl) rfl ?_
      refine dg_s (pc' := 30) [.int (0 : Int32)] rfl (fun _ => rfl) rfl ?_
      refine dw_L (pc' := 32) [(4, .int (0 : Int32)), (3, .int ((m.1 (x1 + 7) (Int32.toNatClampNeg (m.1 (x0 + 3) (Int32.toNatClampNeg x2)))) &&& ((m.1 x1 13) ^^^ (-1 : Int32)))), (0, .ref x0), (1, .ref x1), (2, .int x2)] [] rfl (fun _ => rfl) ?_
      exact dw_j rfl (fun lv1 hv => k_X5_goOnWithoutToken_l32 (Φ := (fun t => Φ (Option.bind t (dc_bk (d_X5_goOnWithoutToken_l2s x0 x1))))) x0 x1 x2 ((m.1 (x1 + 7) (Int32.toNatClampNeg (m.1 (x0 + 3) (Int32.toNatClampNeg x2)))) &&& ((m.1 x1 13) ^^^ (-1 : Int32))) (fun _b => kR _b) N ih (0 : Int32) m lv1 (hv.1 _ rfl) (hv.2.1 _ rfl) (hv.2.2.1 _ rfl) (hv.2.2.2.1 _ rfl) (hv.2.2.2.2.1 _ rfl))
noncomputable def d_X5_goOnWithoutToken (x0 : Nat) (x1 : Nat) (m : dc_M) : Option dc_M :=
  (d_X5_goOnWithoutToken_l2 x0 x1 (0 : Int32) m)
set_option maxHeartbeats 8000000 in
theorem k_X5_goOnWithoutToken {u : Nat} {N : Nat} {Φ : (Option dc_M) → Option Value → dc_M → Prop} (x0 : Nat) (x1 : Nat) (m : dc_M) (kR : ∀  (m : dc_M), Φ (some (m)) (none) m)  {lv : ab_L} (f0 : ab_lk lv 0 = some (.ref x0)) (f1 : ab_lk lv 1 = some (.ref x1)) : dc_pv u N ab_M_X5_goOnWithoutToken 0 lv [] m (Φ (d_X5_goOnWithoutToken x0 x1 m)) := by
  refine dc_pv.mono (dc_ok (C := C_X5_goOnWithoutToken) (S := S_X5_goOnWithoutToken) CO_X5_goOnWithoutToken 400 0 [(0, .ref x0), (1, .ref x1)] lv [] m (dc_sub_cons f0 (dc_sub_cons f1 (dc_sub_nil))) ?_) (Nat.le_succ N)
  unfold d_X5_goOnWithoutToken
  refine dg_s (pc' := 1) [.int (0 : Int32)] rfl (fun _ => rfl) rfl ?_
  refine dw_L (pc' := 2) [(2, .int (0 : Int32)), (0, .ref x0), (1, .ref x1)] [] rfl (fun _ => rfl) ?_
  exact dw_j rfl (fun lv1 hv => k_X5_goOnWithoutToken_l2 (Φ := (fun t => Φ t)) x0 x1 (fun _b => kR _b) N  (0 : Int32) m lv1 (hv.1 _ rfl) (hv.2.1 _ rfl) (hv.2.2.1 _ rfl))
noncomputable def H_X5_goOnWithoutToken : dc_H := fun As m k => match As with
  | [.ref x0, .ref x1] => (d_X5_goOnWithoutToken x0 x1 m).bind (fun q => k (none) q)
  | _ => dc_kz
theorem H_X5_goOnWithoutToken_ok {u : Nat} : dc_cok u 69 H_X5_goOnWithoutToken := fun M' hG N As m k P hz hP => by
  obtain rfl : ab_M_X5_goOnWithoutToken = M' := Option.some.inj hG
  unfold H_X5_goOnWithoutToken at hP
  split at hP
  · rename_i x0 x1
    exact dc_pv.imp (k_X5_goOnWithoutToken (Φ := fun (t : Option dc_M) r m' => P (t.bind (fun q => k (none) q)) → P (k r m')) x0 x1 m (fun _ h => h) rfl rfl) (fun r m' h => h hP)
  · exact absurd hP hz
def C_X5_turnWays : List (Nat × dc_H) := []
theorem CO_X5_turnWays {u : Nat} : dc_CO u C_X5_turnWays := dc_CO_nil
def S_X5_turnWays : List (Nat × List Nat) := []
def d_X5_turnWays (x0 : Nat) (m : dc_M) : dc_M :=
  (dc_wr (dc_wr m x0 9 (m.2.2.1 x0 8)) x0 8 (m.2.2.1 x0 9))
set_option maxHeartbeats 8000000 in
theorem k_X5_turnWays {u : Nat} {N : Nat} {Φ : dc_M → Option Value → dc_M → Prop} (x0 : Nat) (m : dc_M) (kR : ∀  (m : dc_M), Φ (m) (none) m)  {lv : ab_L} (f0 : ab_lk lv 0 = some (.ref x0)) : dc_pv u N ab_M_X5_turnWays 0 lv [] m (Φ (d_X5_turnWays x0 m)) := by
  refine dc_pv.mono (dc_ok (C := C_X5_turnWays) (S := S_X5_turnWays) CO_X5_turnWays 400 0 [(0, .ref x0)] lv [] m (dc_sub_cons f0 (dc_sub_nil)) ?_) (Nat.le_succ N)
  unfold d_X5_turnWays
  refine dg_s (pc' := 1) [.ref x0] rfl (fun _ => rfl) rfl ?_
  refine dg_s (pc' := 4) [.ref (m.2.2.1 x0 9)] rfl (fun _ => rfl) rfl ?_
  refine dg_L (pc' := 5) [(1, .ref (m.2.2.1 x0 9)), (0, .ref x0)] [] rfl (fun _ => rfl) rfl ?_
  refine dg_s (pc' := 6) [.ref x0] rfl (fun _ => rfl) rfl ?_
  refine dg_s (pc' := 7) [.ref x0, .ref x0] rfl (fun _ => rfl) rfl ?_
  refine dg_s (pc' := 10) [.ref (m.2.2.1 x0 8), .ref x0] rfl (fun _ => rfl) rfl ?_
  refine dg_m (pc' := 13) (dc_wr m x0 9 (m.2.2.1 x0 8)) [] rfl (fun _ => rfl) rfl ?_
  refine dg_s (pc' := 14) [.ref x0] rfl (fun _ => rfl) rfl ?_
  refine dg_s (pc' := 15) [.ref (m.2.2.1 x0 9), .ref x0] rfl (fun _ => rfl) rfl ?_
  refine dg_m (pc' := 18) (dc_wr (dc_wr m x0 9 (m.2.2.1 x0 8)) x0 8 (m.2.2.1 x0 9)) [] rfl (fun _ => rfl) rfl ?_
  exact dw_r (some (.inl (none, (dc_wr (dc_wr m x0 9 (m.2.2.1 x0 8)) x0 8 (m.2.2.1 x0 9))))) rfl (fun _ => rfl) (kR _)
def H_X5_turnWays : dc_H := fun As m k => match As with
  | [.ref x0] => dc_let (d_X5_turnWays x0 m) (fun q => k (none) q)
  | _ => dc_kz
theorem H_X5_turnWays_ok {u : Nat} : dc_cok u 68 H_X5_turnWays := fun M' hG N As m k P hz hP => by
  obtain rfl : ab_M_X5_turnWays = M' := Option.some.inj hG
  unfold H_X5_turnWays at hP
  split at hP
  · rename_i x0
    exact dc_pv.imp (k_X5_turnWays (Φ := fun (t : dc_M) r m' => P (dc_let t (fun q => k (none) q)) → P (k r m')) x0 m (fun _ h => h) rfl) (fun r m' h => h hP)
  · exact absurd hP hz
noncomputable def C_X5_findClosedWays : List (Nat × dc_H) := [(238, H_J7_fill_53178), (69, H_X5_goOnWithoutToken), (70, H_X5_lengthen), (68, H_X5_turnWays)]
theorem CO_X5_findClosedWays {u : Nat} : dc_CO u C_X5_findClosedWays := dc_CO_cons H_J7_fill_53178_ok (dc_CO_cons H_X5_goOnWithoutToken_ok (dc_CO_cons H_X5_lengthen_ok (dc_CO_cons H_X5_turnWays_ok (dc_CO_nil))))
def S_X5_findClosedWays : List (Nat × List Nat) := [(22, [0, 1, 2, 3]), (45, [0, 1, 2, 3, 4]), (83, [0, 1, 2, 3])]
noncomputable def d_X5_findClosedWays_b83 (x0 : Nat) (x1 : Nat) (x2 : Int32) (x3 : Int32) (m : dc_M) : Option ((Int32 × dc_M) ⊕ dc_M) :=
  ((d_X5_goOnWithoutToken x0 x1 m).bind (fun q1 => some (Sum.inl ((x3 + (1 : Int32)), (dc_wi q1 (x0 + 6) (Int32.toNatClampNeg ((x2 * (17 : Int32)) + x3)) (q1.1 (q1.2.2.1 x0 8) (Int32.toNatClampNeg x2)))))))
set_option maxHeartbeats 8000000 in
theorem k_X5_findClosedWays_b83 {u : Nat} {N : Nat} {Φ : (Option ((Int32 × dc_M) ⊕ dc_M)) → Option Value → dc_M → Prop} (x0 : Nat) (x1 : Nat) (x2 : Int32) (x3 : Int32) (m : dc_M) (kR : ∀  (m : dc_M), Φ (some (Sum.inr (m))) (none) m) (k22 : ∀ (x3 : Int32) (m : dc_M) (lv : ab_L), ab_lk lv 0 = some (.ref x0) → ab_lk lv 1 = some (.ref x1) → ab_lk lv 2 = some (.int x2) → ab_lk lv 3 = some (.int x3) →  dc_pv u N ab_M_X5_findClosedWays 22 lv [] m (Φ (some (Sum.inl (x3, m))))) {lv : ab_L} (f0 : ab_lk lv 0 = some (.ref x0)) (f1 : ab_lk lv 1 = some (.ref x1)) (f2 : ab_lk lv 2 = some (.int x2)) (f3 : ab_lk lv 3 = some (.int x3)) : dc_pv u N ab_M_X5_findClosedWays 83 lv [] m (Φ (d_X5_findClosedWays_b83 x0 x1 x2 x3 m)) := by
  refine dc_pv.mono (dc_ok (C := C_X5_findClosedWays) (S := S_X5_findClosedWays) CO_X5_findClosedWays 400 83 [(0, .ref x0), (1, .ref x1), (2, .int x2), (3, .int x3)] lv [] m (dc_sub_cons f0 (dc_sub_cons f1 (dc_sub_cons f2 (dc_sub_cons f3 (dc_sub_nil))))) ?_) (Nat.le_succ N)
  unfold d_X5_findClosedWays_b83
  refine dg_s (pc' := 84) [.ref x0] rfl (fun _ => rfl) rfl ?_
  refine dg_s (pc' := 85) [.ref x1, .ref x0] rfl (fun _ => rfl) rfl ?_
  refine dw_b (fun t => Φ t) (pc' := 88) (fun q1 => []) (fun q1 => q1) rfl (fun _ => rfl) (fun q1 => ?_)
  refine dw_g rfl ?_
  refine dg_s (pc' := 89) [.ref x0] rfl (fun _ => rfl) rfl ?_
  refine dg_s (pc' := 92) [.ref (x0 + 6)] rfl (fun _ => rfl) rfl ?_
  refine dg_s (pc' := 93) [.int x2, .ref (x0 + 6)] rfl (fun _ => rfl) rfl ?_
  refine dg_s (pc' := 95) [.int (17 : Int32), .int x2, .ref (x0 + 6)] rfl (fun _ => rfl) rfl ?_
  refine dg_s (pc' := 96) [.int (x2 * (17 : Int32)), .ref (x0 + 6)] rfl (fun _ => rfl) rfl ?_
  refine dg_s (pc' := 97) [.int x3, .int (x2 * (17 : Int32)), .ref (x0 + 6)] rfl (fun _ => rfl) rfl ?_
  refine dg_s (pc' := 98) [.int ((x2 * (17 : Int32)) + x3), .ref (x0 + 6)] rfl (fun _ => rfl) rfl ?_
  refine dg_s (pc' := 99) [.ref x0, .int ((x2 * (17 : Int32)) + x3), .ref (x0 + 6)] rfl (fun _ => rfl) rfl ?_
  refine dg_s (pc' := 102) [.ref (q1.2.2.1 x0 8), .int ((x2 * (17 : Int32)) + x3), .ref (x0 + 6)] rfl (fun _ => rfl) rfl ?_
  refine dg_s (pc' := 103) [.int x2, .ref (q1.2.2.1 x0 8), .int ((x2 * (17 : Int32)) + x3), .ref (x0 + 6)] rfl (fun _ => rfl) rfl ?_
  refine dg_s (pc' := 104) [.int (q1.1 (q1.2.2.1 x0 8) (Int32.toNatClampNeg x2)), .int ((x2 * (17 : Int32)) + x3), .ref (x0 + 6)] rfl (fun _ => rfl) rfl ?_
  refine dg_m (pc' := 105) (dc_wi q1 (x0 + 6) (Int32.toNatClampNeg ((x2 * (17 : Int32)) + x3)) (q1.1 (q1.2.2.1 x0 8) (Int32.toNatClampNeg x2))) [] rfl (fun _ => rfl) rfl ?_
  refine dg_L (pc' := 108) [(3, .int (x3 + (1 : Int32))), (0, .ref x0), (1, .ref x1), (2, .int x2)] [] rfl (fun _ => rfl) rfl ?_
  refine dw_s (pc' := 22) [] rfl (fun _ => rfl) ?_
  exact dw_j rfl (fun lv1 hv => k22 (x3 + (1 : Int32)) (dc_wi q1 (x0 + 6) (Int32.toNatClampNeg ((x2 * (17 : Int32)) + x3)) (q1.1 (q1.2.2.1 x0 8) (Int32.toNatClampNeg x2))) lv1 (hv.1 _ rfl) (hv.2.1 _ rfl) (hv.2.2.1 _ rfl) (hv.2.2.2.1 _ rfl))
noncomputable def d_X5_findClosedWays_l45b (x0 : Nat) (x1 : Nat) (x2 : Int32) (x3 : Int32) (x4 : Int32) (m : dc_M) : Option ((Int32 × dc_M) ⊕ ((Int32 × dc_M) ⊕ dc_M)) :=
  (if (Int32.toInt (m.1 x1 2)) ≤ (Int32.toInt x4) then ((d_X5_findClosedWays_b83 x0 x1 x2 x3 m).map (fun z => Sum.inr (z))) else (if (Int32.toInt (((m.1 x1 13) >>> (x4 &&& 31)) &&& (1 : Int32))) = 0 then some (Sum.inl ((x4 + (1 : Int32)), m)) else (dc_let (d_X5_lengthen x0 (m.2.2.1 x0 9) x1 x4 m) (fun q1 => some (Sum.inl ((x4 + (1 : Int32)), q1))))))
noncomputable def d_X5_findClosedWays_l45s (x0 : Nat) (x1 : Nat) (x2 : Int32) (x3 : Int32) : (Int32 × dc_M) → Option ((Int32 × dc_M) ⊕ ((Int32 × dc_M) ⊕ dc_M)) := fun s => d_X5_findClosedWays_l45b x0 x1 x2 x3 s.1 s.2
noncomputable def d_X5_findClosedWays_l45 (x0 : Nat) (x1 : Nat) (x2 : Int32) (x3 : Int32) (x4 : Int32) (m : dc_M) : Option ((Int32 × dc_M) ⊕ dc_M) := dc_lp (d_X5_findClosedWays_l45s x0 x1 x2 x3) (x4, m)
set_option maxHeartbeats 8000000 in
theorem k_X5_findClosedWays_l45 {u : Nat} {Φ : (Option ((Int32 × dc_M) ⊕ dc_M)) → Option Value → dc_M → Prop} (x0 : Nat) (x1 : Nat) (x2 : Int32) (x3 : Int32) (kR : ∀  (m : dc_M), Φ (some (Sum.inr (m))) (none) m) : ∀ (N : Nat), (∀ (x3 : Int32) (m : dc_M) (lv : ab_L), ab_lk lv 0 = some (.ref x0) → ab_lk lv 1 = some (.ref x1) → ab_lk lv 2 = some (.int x2) → ab_lk lv 3 = some (.int x3) →  dc_pv u N ab_M_X5_findClosedWays 22 lv [] m (Φ (some (Sum.inl (x3, m))))) → ∀ (x4 : Int32) (m : dc_M) (lv : ab_L), ab_lk lv 0 = some (.ref x0) → ab_lk lv 1 = some (.ref x1) → ab_lk lv 2 = some (.int x2) → ab_lk lv 3 = some (.int x3) → ab_lk lv 4 = some (.int x4) → dc_pv u N ab_M_X5_findClosedWays 45 lv [] m (Φ (d_X5_findClosedWays_l45 x0 x1 x2 x3 x4 m)) := by
  intro N
  induction N with
  | zero => intros; exact dc_pv_zero
  | succ N ih =>
    intro k22 x4 m lv f0 f1 f2 f3 f4
    have k22 := fun a0 a1 a2 a3 a4 a5 a6 => (k22 a0 a1 a2 a3 a4 a5 a6).mono (Nat.le_succ N)
    have ih := ih k22
    refine dc_ok (C := C_X5_findClosedWays) (S := S_X5_findClosedWays) CO_X5_findClosedWays 400 45 [(0, .ref x0), (1, .ref x1), (2, .int x2), (3, .int x3), (4, .int x4)] lv [] m (dc_sub_cons f0 (dc_sub_cons f1 (dc_sub_cons f2 (dc_sub_cons f3 (dc_sub_cons f4 (dc_sub_nil)))))) ?_
    unfold d_X5_findClosedWays_l45
    rw [dc_lp_eq]
    show (fun t x => dc_lf u N ab_M_X5_findClosedWays (Φ (Option.bind t (dc_bk (d_X5_findClosedWays_l45s x0 x1 x2 x3)))) x) (d_X5_findClosedWays_l45b x0 x1 x2 x3 x4 m) _
    dsimp only
    unfold d_X5_findClosedWays_l45b
    refine dg_s (pc' := 47) [.int x4] rfl (fun _ => rfl) rfl ?_
    refine dg_s (pc' := 48) [.ref x1, .int x4] rfl (fun _ => rfl) rfl ?_
    refine dg_s (pc' := 51) [.int (m.1 x1 2), .int x4] rfl (fun _ => rfl) rfl ?_
    refine dw_if (fun t => Φ (Option.bind t (dc_bk (d_X5_findClosedWays_l45s x0 x1 x2 x3)))) ((Int32.toInt (m.1 x1 2)) ≤ (Int32.toInt x4)) [] 83 54 rfl (fun _ => rfl) (fun c0 => ?_) (fun c0 => ?_)
    · exact dw_j rfl (fun lv1 hv => k_X5_findClosedWays_b83 (Φ := (fun t => Φ (Option.bind (t.map (fun z => Sum.inr (z))) (dc_bk (d_X5_findClosedWays_l45s x0 x1 x2 x3))))) x0 x1 x2 x3 m (fun _b => kR _b) k22 (hv.1 _ rfl) (hv.2.1 _ rfl) (hv.2.2.1 _ rfl) (hv.2.2.2.1 _ rfl))
    · refine dw_g rfl ?_
      refine dg_s (pc' := 55) [.ref x1] rfl (fun _ => rfl) rfl ?_
      refine dg_s (pc' := 58) [.int (m.1 x1 13)] rfl (fun _ => rfl) rfl ?_
      refine dg_s (pc' := 60) [.int x4, .int (m.1 x1 13)] rfl (fun _ => rfl) rfl ?_
      refine dg_s (pc' := 61) [.int ((m.1 x1 13) >>> (x4 &&& 31))] rfl (fun _ => rfl) rfl ?_
      refine dg_s (pc' := 62) [.int (1 : Int32), .int ((m.1 x1 13) >>> (x4 &&& 31))] rfl (fun _ => rfl) rfl ?_
      refine dg_s (pc' := 63) [.int (((m.1 x1 13) >>> (x4 &&& 31)) &&& (1 : Int32))] rfl (fun _ => rfl) rfl ?_
      refine dw_if (fun t => Φ (Option.bind t (dc_bk (d_X5_findClosedWays_l45s x0 x1 x2 x3)))) ((Int32.toInt (((m.1 x1 13) >>> (x4 &&& 31)) &&& (1 : Int32))) = 0) [] 77 66 rfl (fun _ => rfl) (fun c1 => ?_) (fun c1 => ?_)
      · refine dw_g rfl ?_
        refine dg_L (pc' := 80) [(4, .int (x4 + (1 : Int32))), (0, .ref x0), (1, .ref x1), (2, .int x2), (3, .int x3)] [] rfl (fun _ => rfl) rfl ?_
        refine dw_s (pc' := 45) [] rfl (fun _ => rfl) ?_
        exact dw_j rfl (fun lv1 hv => ih (x4 + (1 : Int32)) m lv1 (hv.1 _ rfl) (hv.2.1 _ rfl) (hv.2.2.1 _ rfl) (hv.2.2.2.1 _ rfl) (hv.2.2.2.2.1 _ rfl))
      · refine dw_g rfl ?_
        refine dg_s (pc' := 67) [.ref x0] rfl (fun _ => rfl) rfl ?_
        refine dg_s (pc' := 68) [.ref x0, .ref x0] rfl (fun _ => rfl) rfl ?_
        refine dg_s (pc' := 71) [.ref (m.2.2.1 x0 9), .ref x0] rfl (fun _ => rfl) rfl ?_
        refine dg_s (pc' := 72) [.ref x1, .ref (m.2.2.1 x0 9), .ref x0] rfl (fun _ => rfl) rfl ?_
        refine dg_s (pc' := 74) [.int x4, .ref x1, .ref (m.2.2.1 x0 9), .ref x0] rfl (fun _ => rfl) rfl ?_
        refine dw_l (fun t => Φ (Option.bind t (dc_bk (d_X5_findClosedWays_l45s x0 x1 x2 x3)))) (pc' := 77) (fun q1 => []) (fun q1 => q1) rfl (fun _ => rfl) (fun q1 => ?_)
        refine dw_g rfl ?_
        refine dg_L (pc' := 80) [(4, .int (x4 + (1 : Int32))), (0, .ref x0), (1, .ref x1), (2, .int x2), (3, .int x3)] [] rfl (fun _ => rfl) rfl ?_
        refine dw_s (pc' := 45) [] rfl (fun _ => rfl) ?_
        exact dw_j rfl (fun lv1 hv => ih (x4 + (1 : Int32)) q1 lv1 (hv.1 _ rfl) (hv.2.1 _ rfl) (hv.2.2.1 _ rfl) (hv.2.2.2.1 _ rfl) (hv.2.2.2.2.1 _ rfl))
noncomputable def d_X5_findClosedWays_l22b (x0 : Nat) (x1 : Nat) (x2 : Int32) (x3 : Int32) (m : dc_M) : Option ((Int32 × dc_M) ⊕ dc_M) :=
  (if (Int32.toInt (m.1 x1 1)) < (Int32.toInt x3) then some (Sum.inr (m)) else (dc_let (d_X5_turnWays x0 m) (fun q1 => ((d_J7_fill_53178 (q1.2.2.1 x0 8) (-1 : Int32) q1).bind (fun q2 => (d_X5_findClosedWays_l45 x0 x1 x2 x3 (0 : Int32) q2))))))
noncomputable def d_X5_findClosedWays_l22s (x0 : Nat) (x1 : Nat) (x2 : Int32) : (Int32 × dc_M) → Option ((Int32 × dc_M) ⊕ dc_M) := fun s => d_X5_findClosedWays_l22b x0 x1 x2 s.1 s.2
noncomputable def d_X5_findClosedWays_l22 (x0 : Nat) (x1 : Nat) (x2 : Int32) (x3 : Int32) (m : dc_M) : Option dc_M := dc_lp (d_X5_findClosedWays_l22s x0 x1 x2) (x3, m)
set_option maxHeartbeats 8000000 in
theorem k_X5_findClosedWays_l22 {u : Nat} {Φ : (Option dc_M) → Option Value → dc_M → Prop} (x0 : Nat) (x1 : Nat) (x2 : Int32) (kR : ∀  (m : dc_M), Φ (some (m)) (none) m) : ∀ (N : Nat), ∀ (x3 : Int32) (m : dc_M) (lv : ab_L), ab_lk lv 0 = some (.ref x0) → ab_lk lv 1 = some (.ref x1) → ab_lk lv 2 = some (.int x2) → ab_lk lv 3 = some (.int x3) → dc_pv u N ab_M_X5_findClosedWays 22 lv [] m (Φ (d_X5_findClosedWays_l22 x0 x1 x2 x3 m)) := by
  intro N
  induction N with
  | zero => intros; exact dc_pv_zero
  | succ N ih =>
    intro x3 m lv f0 f1 f2 f3
    refine dc_ok (C := C_X5_findClosedWays) (S := S_X5_findClosedWays) CO_X5_findClosedWays 400 22 [(0, .ref x0), (1, .ref x1), (2, .int x2), (3, .int x3)] lv [] m (dc_sub_cons f0 (dc_sub_cons f1 (dc_sub_cons f2 (dc_sub_cons f3 (dc_sub_nil))))) ?_
    unfold d_X5_findClosedWays_l22
    rw [dc_lp_eq]
    show (fun t x => dc_lf u N ab_M_X5_findClosedWays (Φ (Option.bind t (dc_bk (d_X5_findClosedWays_l22s x0 x1 x2)))) x) (d_X5_findClosedWays_l22b x0 x1 x2 x3 m) _
    dsimp only
    unfold d_X5_findClosedWays_l22b
    refine dg_s (pc' := 23) [.int x3] rfl (fun _ => rfl) rfl ?_
    refine dg_s (pc' := 24) [.ref x1, .int x3] rfl (fun _ => rfl) rfl ?_
    refine dg_s (pc' := 27) [.int (m.1 x1 1), .int x3] rfl (fun _ => rfl) rfl ?_
    refine dw_if (fun t => Φ (Option.bind t (dc_bk (d_X5_findClosedWays_l22s x0 x1 x2)))) ((Int32.toInt (m.1 x1 1)) < (Int32.toInt x3)) [] 111 30 rfl (fun _ => rfl) (fun c0 => ?_) (fun c0 => ?_)
    · refine dw_g rfl ?_
      exact dw_r (some (.inl (none, m))) rfl (fun _ => rfl) (kR _)
    · refine dw_g rfl ?_
      refine dg_s (pc' := 31) [.ref x0] rfl (fun _ => rfl) rfl ?_
      refine dw_l (fun t => Φ (Option.bind t (dc_bk (d_X5_findClosedWays_l22s x0 x1 x2)))) (pc' := 34) (fun q1 => []) (fun q1 => q1) rfl (fun _ => rfl) (fun q1 => ?_)
      refine dw_g rfl ?_
      refine dg_s (pc' := 35) [.ref x0] rfl (fun _ => rfl) rfl ?_
      refine dg_s (pc' := 38) [.ref (q1.2.2.1 x0 8)] rfl (fun _ => rfl) rfl ?_
      refine dg_s (pc' := 39) [.int (-1 : Int32), .ref (q1.2.2.1 x0 8)] rfl (fun _ => rfl) rfl ?_
      refine dw_b (fun t => Φ (Option.bind t (dc_bk (d_X5_findClosedWays_l22s x0 x1 x2)))) (pc' := 42) (fun q2 => []) (fun q2 => q2) rfl (fun _ => rfl) (fun q2 => ?_)
      refine dw_g rfl ?_
      refine dg_s (pc' := 43) [.int (0 : Int32)] rfl (fun _ => rfl) rfl ?_
      refine dw_L (pc' := 45) [(4, .int (0 : Int32)), (0, .ref x0), (1, .ref x1), (2, .int x2), (3, .int x3)] [] rfl (fun _ => rfl) ?_
      exact dw_j rfl (fun lv1 hv => k_X5_findClosedWays_l45 (Φ := (fun t => Φ (Option.bind t (dc_bk (d_X5_findClosedWays_l22s x0 x1 x2))))) x0 x1 x2 x3 (fun _b => kR _b) N ih (0 : Int32) q2 lv1 (hv.1 _ rfl) (hv.2.1 _ rfl) (hv.2.2.1 _ rfl) (hv.2.2.2.1 _ rfl) (hv.2.2.2.2.1 _ rfl))
noncomputable def d_X5_findClosedWays (x0 : Nat) (x1 : Nat) (x2 : Int32) (m : dc_M) : Option dc_M :=
  ((d_J7_fill_53178 (m.2.2.1 x0 8) (-1 : Int32) m).bind (fun q1 => ((d_X5_goOnWithoutToken x0 x1 (dc_wi q1 (q1.2.2.1 x0 8) (Int32.toNatClampNeg x2) (0 : Int32))).bind (fun q2 => (d_X5_findClosedWays_l22 x0 x1 x2 (1 : Int32) q2)))))
set_option maxHeartbeats 8000000 in
theorem k_X5_findClosedWays {u : Nat} {N : Nat} {Φ : (Option dc_M) → Option Value → dc_M → Prop} (x0 : Nat) (x1 : Nat) (x2 : Int32) (m : dc_M) (kR : ∀  (m : dc_M), Φ (some (m)) (none) m)  {lv : ab_L} (f0 : ab_lk lv 0 = some (.ref x0)) (f1 : ab_lk lv 1 = some (.ref x1)) (f2 : ab_lk lv 2 = some (.int x2)) : dc_pv u N ab_M_X5_findClosedWays 0 lv [] m (Φ (d_X5_findClosedWays x0 x1 x2 m)) := by
  refine dc_pv.mono (dc_ok (C := C_X5_findClosedWays) (S := S_X5_findClosedWays) CO_X5_findClosedWays 400 0 [(0, .ref x0), (1, .ref x1), (2, .int x2)] lv [] m (dc_sub_cons f0 (dc_sub_cons f1 (dc_sub_cons f2 (dc_sub_nil)))) ?_) (Nat.le_succ N)
  unfold d_X5_findClosedWays
  refine dg_s (pc' := 1) [.ref x0] rfl (fun _ => rfl) rfl ?_
  refine dg_s (pc' := 4) [.ref (m.2.2.1 x0 8)] rfl (fun _ => rfl) rfl ?_
  refine dg_s (pc' := 5) [.int (-1 : Int32), .ref (m.2.2.1 x0 8)] rfl (fun _ => rfl) rfl ?_
  refine dw_b (fun t => Φ t) (pc' := 8) (fun q1 => []) (fun q1 => q1) rfl (fun _ => rfl) (fun q1 => ?_)
  refine dw_g rfl ?_
  refine dg_s (pc' := 9) [.ref x0] rfl (fun _ => rfl) rfl ?_
  refine dg_s (pc' := 12) [.ref (q1.2.2.1 x0 8)] rfl (fun _ => rfl) rfl ?_
  refine dg_s (pc' := 13) [.int x2, .ref (q1.2.2.1 x0 8)] rfl (fun _ => rfl) rfl ?_
  refine dg_s (pc' := 14) [.int (0 : Int32), .int x2, .ref (q1.2.2.1 x0 8)] rfl (fun _ => rfl) rfl ?_
  refine dg_m (pc' := 15) (dc_wi q1 (q1.2.2.1 x0 8) (Int32.toNatClampNeg x2) (0 : Int32)) [] rfl (fun _ => rfl) rfl ?_
  refine dg_s (pc' := 16) [.ref x0] rfl (fun _ => rfl) rfl ?_
  refine dg_s (pc' := 17) [.ref x1, .ref x0] rfl (fun _ => rfl) rfl ?_
  refine dw_b (fun t => Φ t) (pc' := 20) (fun q2 => []) (fun q2 => q2) rfl (fun _ => rfl) (fun q2 => ?_)
  refine dw_g rfl ?_
  refine dg_s (pc' := 21) [.int (1 : Int32)] rfl (fun _ => rfl) rfl ?_
  refine dw_L (pc' := 22) [(3, .int (1 : Int32)), (0, .ref x0), (1, .ref x1), (2, .int x2)] [] rfl (fun _ => rfl) ?_
  exact dw_j rfl (fun lv1 hv => k_X5_findClosedWays_l22 (Φ := (fun t => Φ t)) x0 x1 x2 (fun _b => kR _b) N  (1 : Int32) q2 lv1 (hv.1 _ rfl) (hv.2.1 _ rfl) (hv.2.2.1 _ rfl) (hv.2.2.2.1 _ rfl))
noncomputable def H_X5_findClosedWays : dc_H := fun As m k => match As with
  | [.ref x0, .ref x1, .int x2] => (d_X5_findClosedWays x0 x1 x2 m).bind (fun q => k (none) q)
  | _ => dc_kz
theorem H_X5_findClosedWays_ok {u : Nat} : dc_cok u 67 H_X5_findClosedWays := fun M' hG N As m k P hz hP => by
  obtain rfl : ab_M_X5_findClosedWays = M' := Option.some.inj hG
  unfold H_X5_findClosedWays at hP
  split at hP
  · rename_i x0 x1 x2
    exact dc_pv.imp (k_X5_findClosedWays (Φ := fun (t : Option dc_M) r m' => P (t.bind (fun q => k (none) q)) → P (k r m')) x0 x1 x2 m (fun _ h => h) rfl rfl rfl) (fun r m' h => h hP)
  · exact absurd hP hz
def C_J6_bitCount_0f7a4 : List (Nat × dc_H) := []
theorem CO_J6_bitCount_0f7a4 {u : Nat} : dc_CO u C_J6_bitCount_0f7a4 := dc_CO_nil
def S_J6_bitCount_0f7a4 : List (Nat × List Nat) := []
def d_J6_bitCount_0f7a4 (x0 : Int32) (m : dc_M) : Int32 :=
  ((((((((x0 - (((x0.toUInt32 >>> ((1 : Int32).toUInt32 &&& Int32.toUInt32 31)).toInt32) &&& (1431655765 : Int32))) &&& (858993459 : Int32)) + ((((x0 - (((x0.toUInt32 >>> ((1 : Int32).toUInt32 &&& Int32.toUInt32 31)).toInt32) &&& (1431655765 : Int32))).toUInt32 >>> ((2 : Int32).toUInt32 &&& Int32.toUInt32 31)).toInt32) &&& (858993459 : Int32))) + (((((x0 - (((x0.toUInt32 >>> ((1 : Int32).toUInt32 &&& Int32.toUInt32 31)).toInt32) &&& (1431655765 : Int32))) &&& (858993459 : Int32)) + ((((x0 - (((x0.toUInt32 >>> ((1 : Int32).toUInt32 &&& Int32.toUInt32 31)).toInt32) &&& (1431655765 : Int32))).toUInt32 >>> ((2 : Int32).toUInt32 &&& Int32.toUInt32 31)).toInt32) &&& (858993459 : Int32))).toUInt32 >>> ((4 : Int32).toUInt32 &&& Int32.toUInt32 31)).toInt32)) &&& (252645135 : Int32)) + (((((((x0 - (((x0.toUInt32 >>> ((1 : Int32).toUInt32 &&& Int32.toUInt32 31)).toInt32) &&& (1431655765 : Int32))) &&& (858993459 : Int32)) + ((((x0 - (((x0.toUInt32 >>> ((1 : Int32).toUInt32 &&& Int32.toUInt32 31)).toInt32) &&& (1431655765 : Int32))).toUInt32 >>> ((2 : Int32).toUInt32 &&& Int32.toUInt32 31)).toInt32) &&& (858993459 : Int32))) + (((((x0 - (((x0.toUInt32 >>> ((1 : Int32).toUInt32 &&& Int32.toUInt32 31)).toInt32) &&& (1431655765 : Int32))) &&& (858993459 : Int32)) + ((((x0 - (((x0.toUInt32 >>> ((1 : Int32).toUInt32 &&& Int32.toUInt32 31)).toInt32) &&& (1431655765 : Int32))).toUInt32 >>> ((2 : Int32).toUInt32 &&& Int32.toUInt32 31)).toInt32) &&& (858993459 : Int32))).toUInt32 >>> ((4 : Int32).toUInt32 &&& Int32.toUInt32 31)).toInt32)) &&& (252645135 : Int32)).toUInt32 >>> ((8 : Int32).toUInt32 &&& Int32.toUInt32 31)).toInt32)) + ((((((((x0 - (((x0.toUInt32 >>> ((1 : Int32).toUInt32 &&& Int32.toUInt32 31)).toInt32) &&& (1431655765 : Int32))) &&& (858993459 : Int32)) + ((((x0 - (((x0.toUInt32 >>> ((1 : Int32).toUInt32 &&& Int32.toUInt32 31)).toInt32) &&& (1431655765 : Int32))).toUInt32 >>> ((2 : Int32).toUInt32 &&& Int32.toUInt32 31)).toInt32) &&& (858993459 : Int32))) + (((((x0 - (((x0.toUInt32 >>> ((1 : Int32).toUInt32 &&& Int32.toUInt32 31)).toInt32) &&& (1431655765 : Int32))) &&& (858993459 : Int32)) + ((((x0 - (((x0.toUInt32 >>> ((1 : Int32).toUInt32 &&& Int32.toUInt32 31)).toInt32) &&& (1431655765 : Int32))).toUInt32 >>> ((2 : Int32).toUInt32 &&& Int32.toUInt32 31)).toInt32) &&& (858993459 : Int32))).toUInt32 >>> ((4 : Int32).toUInt32 &&& Int32.toUInt32 31)).toInt32)) &&& (252645135 : Int32)) + (((((((x0 - (((x0.toUInt32 >>> ((1 : Int32).toUInt32 &&& Int32.toUInt32 31)).toInt32) &&& (1431655765 : Int32))) &&& (858993459 : Int32)) + ((((x0 - (((x0.toUInt32 >>> ((1 : Int32).toUInt32 &&& Int32.toUInt32 31)).toInt32) &&& (1431655765 : Int32))).toUInt32 >>> ((2 : Int32).toUInt32 &&& Int32.toUInt32 31)).toInt32) &&& (858993459 : Int32))) + (((((x0 - (((x0.toUInt32 >>> ((1 : Int32).toUInt32 &&& Int32.toUInt32 31)).toInt32) &&& (1431655765 : Int32))) &&& (858993459 : Int32)) + ((((x0 - (((x0.toUInt32 >>> ((1 : Int32).toUInt32 &&& Int32.toUInt32 31)).toInt32) &&& (1431655765 : Int32))).toUInt32 >>> ((2 : Int32).toUInt32 &&& Int32.toUInt32 31)).toInt32) &&& (858993459 : Int32))).toUInt32 >>> ((4 : Int32).toUInt32 &&& Int32.toUInt32 31)).toInt32)) &&& (252645135 : Int32)).toUInt32 >>> ((8 : Int32).toUInt32 &&& Int32.toUInt32 31)).toInt32)).toUInt32 >>> ((16 : Int32).toUInt32 &&& Int32.toUInt32 31)).toInt32)) &&& (63 : Int32))
set_option maxHeartbeats 8000000 in
theorem k_J6_bitCount_0f7a4 {u : Nat} {N : Nat} {Φ : Int32 → Option Value → dc_M → Prop} (x0 : Int32) (m : dc_M) (kR : ∀ (v : Int32), Φ (v) (some (.int v)) m)  {lv : ab_L} (f0 : ab_lk lv 0 = some (.int x0)) : dc_pv u N ab_M_J6_bitCount_0f7a4 0 lv [] m (Φ (d_J6_bitCount_0f7a4 x0 m)) := by
  refine dc_pv.mono (dc_ok (C := C_J6_bitCount_0f7a4) (S := S_J6_bitCount_0f7a4) CO_J6_bitCount_0f7a4 400 0 [(0, .int x0)] lv [] m (dc_sub_cons f0 (dc_sub_nil)) ?_) (Nat.le_succ N)
  unfold d_J6_bitCount_0f7a4
  refine dg_s (pc' := 1) [.int x0] rfl (fun _ => rfl) rfl ?_
  refine dg_s (pc' := 2) [.int x0, .int x0] rfl (fun _ => rfl) rfl ?_
  refine dg_s (pc' := 3) [.int (1 : Int32), .int x0, .int x0] rfl (fun _ => rfl) rfl ?_
  refine dg_s (pc' := 4) [.int ((x0.toUInt32 >>> ((1 : Int32).toUInt32 &&& Int32.toUInt32 31)).toInt32), .int x0] rfl (fun _ => rfl) rfl ?_
  refine dg_s (pc' := 7) [.int (1431655765 : Int32), .int ((x0.toUInt32 >>> ((1 : Int32).toUInt32 &&& Int32.toUInt32 31)).toInt32), .int x0] rfl (fun _ => rfl) rfl ?_
  refine dg_s (pc' := 8) [.int (((x0.toUInt32 >>> ((1 : Int32).toUInt32 &&& Int32.toUInt32 31)).toInt32) &&& (1431655765 : Int32)), .int x0] rfl (fun _ => rfl) rfl ?_
  refine dg_s (pc' := 9) [.int (x0 - (((x0.toUInt32 >>> ((1 : Int32).toUInt32 &&& Int32.toUInt32 31)).toInt32) &&& (1431655765 : Int32)))] rfl (fun _ => rfl) rfl ?_
  refine dg_L (pc' := 10) [(0, .int (x0 - (((x0.toUInt32 >>> ((1 : Int32).toUInt32 &&& Int32.toUInt32 31)).toInt32) &&& (1431655765 : Int32))))] [] rfl (fun _ => rfl) rfl ?_
  refine dg_s (pc' := 11) [.int (x0 - (((x0.toUInt32 >>> ((1 : Int32).toUInt32 &&& Int32.toUInt32 31)).toInt32) &&& (1431655765 : Int32)))] rfl (fun _ => rfl) rfl ?_
  refine dg_s (pc' := 14) [.int (858993459 : Int32), .int (x0 - (((x0.toUInt32 >>> ((1 : Int32).toUInt32 &&& Int32.toUInt32 31)).toInt32) &&& (1431655765 : Int32)))] rfl (fun _ => rfl) rfl ?_
  refine dg_s (pc' := 15) [.int ((x0 - (((x0.toUInt32 >>> ((1 : Int32).toUInt32 &&& Int32.toUInt32 31)).toInt32) &&& (1431655765 : Int32))) &&& (858993459 : Int32))] rfl (fun _ => rfl) rfl ?_
  refine dg_s (pc' := 16) [.int (x0 - (((x0.toUInt32 >>> ((1 : Int32).toUInt32 &&& Int32.toUInt32 31)).toInt32) &&& (1431655765 : Int32))), .int ((x0 - (((x0.toUInt32 >>> ((1 : Int32).toUInt32 &&& Int32.toUInt32 31)).toInt32) &&& (1431655765 : Int32))) &&& (858993459 : Int32))] rfl (fun _ => rfl) rfl ?_
  refine dg_s (pc' := 17) [.int (2 : Int32), .int (x0 - (((x0.toUInt32 >>> ((1 : Int32).toUInt32 &&& Int32.toUInt32 31)).toInt32) &&& (1431655765 : Int32))), .int ((x0 - (((x0.toUInt32 >>> ((1 : Int32).toUInt32 &&& Int32.toUInt32 31)).toInt32) &&& (1431655765 : Int32))) &&& (858993459 : Int32))] rfl (fun _ => rfl) rfl ?_
  refine dg_s (pc' := 18) [.int (((x0 - (((x0.toUInt32 >>> ((1 : Int32).toUInt32 &&& Int32.toUInt32 31)).toInt32) &&& (1431655765 : Int32))).toUInt32 >>> ((2 : Int32).toUInt32 &&& Int32.toUInt32 31)).toInt32), .int ((x0 - (((x0.toUInt32 >>> ((1 : Int32).toUInt32 &&& Int32.toUInt32 31)).toInt32) &&& (1431655765 : Int32))) &&& (858993459 : Int32))] rfl (fun _ => rfl) rfl ?_
  refine dg_s (pc' := 21) [.int (858993459 : Int32), .int (((x0 - (((x0.toUInt32 >>> ((1 : Int32).toUInt32 &&& Int32.toUInt32 31)).toInt32) &&& (1431655765 : Int32))).toUInt32 >>> ((2 : Int32).toUInt32 &&& Int32.toUInt32 31)).toInt32), .int ((x0 - (((x0.toUInt32 >>> ((1 : Int32).toUInt32 &&& Int32.toUInt32 31)).toInt32) &&& (1431655765 : Int32))) &&& (858993459 : Int32))] rfl (fun _ => rfl) rfl ?_
  refine dg_s (pc' := 22) [.int ((((x0 - (((x0.toUInt32 >>> ((1 : Int32).toUInt32 &&& Int32.toUInt32 31)).toInt32) &&& (1431655765 : Int32))).toUInt32 >>> ((2 : Int32).toUInt32 &&& Int32.toUInt32 31)).toInt32) &&& (858993459 : Int32)), .int ((x0 - (((x0.toUInt32 >>> ((1 : Int32).toUInt32 &&& Int32.toUInt32 31)).toInt32) &&& (1431655765 : Int32))) &&& (858993459 : Int32))] rfl (fun _ => rfl) rfl ?_
  refine dg_s (pc' := 23) [.int (((x0 - (((x0.toUInt32 >>> ((1 : Int32).toUInt32 &&& Int32.toUInt32 31)).toInt32) &&& (1431655765 : Int32))) &&& (858993459 : Int32)) + ((((x0 - (((x0.toUInt32 >>> ((1 : Int32).toUInt32 &&& Int32.toUInt32 31)).toInt32) &&& (1431655765 : Int32))).toUInt32 >>> ((2 : Int32).toUInt32 &&& Int32.toUInt32 31)).toInt32) &&& (858993459 : Int32)))] rfl (fun _ => rfl) rfl ?_
  refine dg_L (pc' := 24) [(0, .int (((x0 - (((x0.toUInt32 >>> ((1 : Int32).toUInt32 &&& Int32.toUInt32 31)).toInt32) &&& (1431655765 : Int32))) &&& (858993459 : Int32)) + ((((x0 - (((x0.toUInt32 >>> ((1 : Int32).toUInt32 &&& Int32.toUInt32 31)).toInt32) &&& (1431655765 : Int32))).toUInt32 >>> ((2 : Int32).toUInt32 &&& Int32.toUInt32 31)).toInt32) &&& (858993459 : Int32))))] [] rfl (fun _ => rfl) rfl ?_
  refine dg_s (pc' := 25) [.int (((x0 - (((x0.toUInt32 >>> ((1 : Int32).toUInt32 &&& Int32.toUInt32 31)).toInt32) &&& (1431655765 : Int32))) &&& (858993459 : Int32)) + ((((x0 - (((x0.toUInt32 >>> ((1 : Int32).toUInt32 &&& Int32.toUInt32 31)).toInt32) &&& (1431655765 : Int32))).toUInt32 >>> ((2 : Int32).toUInt32 &&& Int32.toUInt32 31)).toInt32) &&& (858993459 : Int32)))] rfl (fun _ => rfl) rfl ?_
  refine dg_s (pc' := 26) [.int (((x0 - (((x0.toUInt32 >>> ((1 : Int32).toUInt32 &&& Int32.toUInt32 31)).toInt32) &&& (1431655765 : Int32))) &&& (858993459 : Int32)) + ((((x0 - (((x0.toUInt32 >>> ((1 : Int32).toUInt32 &&& Int32.toUInt32 31)).toInt32) &&& (1431655765 : Int32))).toUInt32 >>> ((2 : Int32).toUInt32 &&& Int32.toUInt32 31)).toInt32) &&& (858993459 : Int32))), .int (((x0 - (((x0.toUInt32 >>> ((1 : Int32).toUInt32 &&& Int32.toUInt32 31)).toInt32) &&& (1431655765 : Int32))) &&& (858993459 : Int32)) + ((((x0 - (((x0.toUInt32 >>> ((1 : Int32).toUInt32 &&& Int32.toUInt32 31)).toInt32) &&& (1431655765 : Int32))).toUInt32 >>> ((2 : Int32).toUInt32 &&& Int32.toUInt32 31)).toInt32) &&& (858993459 : Int32)))] rfl (fun _ => rfl) rfl ?_
  refine dg_s (pc' := 27) [.int (4 : Int32), .int (((x0 - (((x0.toUInt32 >>> ((1 : Int32).toUInt32 &&& Int32.toUInt32 31)).toInt32) &&& (1431655765 : Int32))) &&& (858993459 : Int32)) + ((((x0 - (((x0.toUInt32 >>> ((1 : Int32).toUInt32 &&& Int32.toUInt32 31)).toInt32) &&& (1431655765 : Int32))).toUInt32 >>> ((2 : Int32).toUInt32 &&& Int32.toUInt32 31)).toInt32) &&& (858993459 : Int32))), .int (((x0 - (((x0.toUInt32 >>> ((1 : Int32).toUInt32 &&& Int32.toUInt32 31)).toInt32) &&& (1431655765 : Int32))) &&& (858993459 : Int32)) + ((((x0 - (((x0.toUInt32 >>> ((1 : Int32).toUInt32 &&& Int32.toUInt32 31)).toInt32) &&& (1431655765 : Int32))).toUInt32 >>> ((2 : Int32).toUInt32 &&& Int32.toUInt32 31)).toInt32) &&& (858993459 : Int32)))] rfl (fun _ => rfl) rfl ?_
  refine dg_s (pc' := 28) [.int (((((x0 - (((x0.toUInt32 >>> ((1 : Int32).toUInt32 &&& Int32.toUInt32 31)).toInt32) &&& (1431655765 : Int32))) &&& (858993459 : Int32)) + ((((x0 - (((x0.toUInt32 >>> ((1 : Int32).toUInt32 &&& Int32.toUInt32 31)).toInt32) &&& (1431655765 : Int32))).toUInt32 >>> ((2 : Int32).toUInt32 &&& Int32.toUInt32 31)).toInt32) &&& (858993459 : Int32))).toUInt32 >>> ((4 : Int32).toUInt32 &&& Int32.toUInt32 31)).toInt32), .int (((x0 - (((x0.toUInt32 >>> ((1 : Int32).toUInt32 &&& Int32.toUInt32 31)).toInt32) &&& (1431655765 : Int32))) &&& (858993459 : Int32)) + ((((x0 - (((x0.toUInt32 >>> ((1 : Int32).toUInt32 &&& Int32.toUInt32 31)).toInt32) &&& (1431655765 : Int32))).toUInt32 >>> ((2 : Int32).toUInt32 &&& Int32.toUInt32 31)).toInt32) &&& (858993459 : Int32)))] rfl (fun _ => rfl) rfl ?_
  refine dg_s (pc' := 29) [.int ((((x0 - (((x0.toUInt32 >>> ((1 : Int32).toUInt32 &&& Int32.toUInt32 31)).toInt32) &&& (1431655765 : Int32))) &&& (858993459 : Int32)) + ((((x0 - (((x0.toUInt32 >>> ((1 : Int32).toUInt32 &&& Int32.toUInt32 31)).toInt32) &&& (1431655765 : Int32))).toUInt32 >>> ((2 : Int32).toUInt32 &&& Int32.toUInt32 31)).toInt32) &&& (858993459 : Int32))) + (((((x0 - (((x0.toUInt32 >>> ((1 : Int32).toUInt32 &&& Int32.toUInt32 31)).toInt32) &&& (1431655765 : Int32))) &&& (858993459 : Int32)) + ((((x0 - (((x0.toUInt32 >>> ((1 : Int32).toUInt32 &&& Int32.toUInt32 31)).toInt32) &&& (1431655765 : Int32))).toUInt32 >>> ((2 : Int32).toUInt32 &&& Int32.toUInt32 31)).toInt32) &&& (858993459 : Int32))).toUInt32 >>> ((4 : Int32).toUInt32 &&& Int32.toUInt32 31)).toInt32))] rfl (fun _ => rfl) rfl ?_
  refine dg_s (pc' := 32) [.int (252645135 : Int32), .int ((((x0 - (((x0.toUInt32 >>> ((1 : Int32).toUInt32 &&& Int32.toUInt32 31)).toInt32) &&& (1431655765 : Int32))) &&& (858993459 : Int32)) + ((((x0 - (((x0.toUInt32 >>> ((1 : Int32).toUInt32 &&& Int32.toUInt32 31)).toInt32) &&& (1431655765 : Int32))).toUInt32 >>> ((2 : Int32).toUInt32 &&& Int32.toUInt32 31)).toInt32) &&& (858993459 : Int32))) + (((((x0 - (((x0.toUInt32 >>> ((1 : Int32).toUInt32 &&& Int32.toUInt32 31)).toInt32) &&& (1431655765 : Int32))) &&& (858993459 : Int32)) + ((((x0 - (((x0.toUInt32 >>> ((1 : Int32).toUInt32 &&& Int32.toUInt32 31)).toInt32) &&& (1431655765 : Int32))).toUInt32 >>> ((2 : Int32).toUInt32 &&& Int32.toUInt32 31)).toInt32) &&& (858993459 : Int32))).toUInt32 >>> ((4 : Int32).toUInt32 &&& Int32.toUInt32 31)).toInt32))] rfl (fun _ => rfl) rfl ?_
  refine dg_s (pc' := 33) [.int (((((x0 - (((x0.toUInt32 >>> ((1 : Int32).toUInt32 &&& Int32.toUInt32 31)).toInt32) &&& (1431655765 : Int32))) &&& (858993459 : Int32)) + ((((x0 - (((x0.toUInt32 >>> ((1 : Int32).toUInt32 &&& Int32.toUInt32 31)).toInt32) &&& (1431655765 : Int32))).toUInt32 >>> ((2 : Int32).toUInt32 &&& Int32.toUInt32 31)).toInt32) &&& (858993459 : Int32))) + (((((x0 - (((x0.toUInt32 >>> ((1 : Int32).toUInt32 &&& Int32.toUInt32 31)).toInt32) &&& (1431655765 : Int32))) &&& (858993459 : Int32)) + ((((x0 - (((x0.toUInt32 >>> ((1 : Int32).toUInt32 &&& Int32.toUInt32 31)).toInt32) &&& (1431655765 : Int32))).toUInt32 >>> ((2 : Int32).toUInt32 &&& Int32.toUInt32 31)).toInt32) &&& (858993459 : Int32))).toUInt32 >>> ((4 : Int32).toUInt32 &&& Int32.toUInt32 31)).toInt32)) &&& (252645135 : Int32))] rfl (fun _ => rfl) rfl ?_
  refine dg_L (pc' := 34) [(0, .int (((((x0 - (((x0.toUInt32 >>> ((1 : Int32).toUInt32 &&& Int32.toUInt32 31)).toInt32) &&& (1431655765 : Int32))) &&& (858993459 : Int32)) + ((((x0 - (((x0.toUInt32 >>> ((1 : Int32).toUInt32 &&& Int32.toUInt32 31)).toInt32) &&& (1431655765 : Int32))).toUInt32 >>> ((2 : Int32).toUInt32 &&& Int32.toUInt32 31)).toInt32) &&& (858993459 : Int32))) + (((((x0 - (((x0.toUInt32 >>> ((1 : Int32).toUInt32 &&& Int32.toUInt32 31)).toInt32) &&& (1431655765 : Int32))) &&& (858993459 : Int32)) + ((((x0 - (((x0.toUInt32 >>> ((1 : Int32).toUInt32 &&& Int32.toUInt32 31)).toInt32) &&& (1431655765 : Int32))).toUInt32 >>> ((2 : Int32).toUInt32 &&& Int32.toUInt32 31)).toInt32) &&& (858993459 : Int32))).toUInt32 >>> ((4 : Int32).toUInt32 &&& Int32.toUInt32 31)).toInt32)) &&& (252645135 : Int32)))] [] rfl (fun _ => rfl) rfl ?_
  refine dg_s (pc' := 35) [.int (((((x0 - (((x0.toUInt32 >>> ((1 : Int32).toUInt32 &&& Int32.toUInt32 31)).toInt32) &&& (1431655765 : Int32))) &&& (858993459 : Int32)) + ((((x0 - (((x0.toUInt32 >>> ((1 : Int32).toUInt32 &&& Int32.toUInt32 31)).toInt32) &&& (1431655765 : Int32))).toUInt32 >>> ((2 : Int32).toUInt32 &&& Int32.toUInt32 31)).toInt32) &&& (858993459 : Int32))) + (((((x0 - (((x0.toUInt32 >>> ((1 : Int32).toUInt32 &&& Int32.toUInt32 31)).toInt32) &&& (1431655765 : Int32))) &&& (858993459 : Int32)) + ((((x0 - (((x0.toUInt32 >>> ((1 : Int32).toUInt32 &&& Int32.toUInt32 31)).toInt32) &&& (1431655765 : Int32))).toUInt32 >>> ((2 : Int32).toUInt32 &&& Int32.toUInt32 31)).toInt32) &&& (858993459 : Int32))).toUInt32 >>> ((4 : Int32).toUInt32 &&& Int32.toUInt32 31)).toInt32)) &&& (252645135 : Int32))] rfl (fun _ => rfl) rfl ?_
  refine dg_s (pc' := 36) [.int (((((x0 - (((x0.toUInt32 >>> ((1 : Int32).toUInt32 &&& Int32.toUInt32 31)).toInt32) &&& (1431655765 : Int32))) &&& (858993459 : Int32)) + ((((x0 - (((x0.toUInt32 >>> ((1 : Int32).toUInt32 &&& Int32.toUInt32 31)).toInt32) &&& (1431655765 : Int32))).toUInt32 >>> ((2 : Int32).toUInt32 &&& Int32.toUInt32 31)).toInt32) &&& (858993459 : Int32))) + (((((x0 - (((x0.toUInt32 >>> ((1 : Int32).toUInt32 &&& Int32.toUInt32 31)).toInt32) &&& (1431655765 : Int32))) &&& (858993459 : Int32)) + ((((x0 - (((x0.toUInt32 >>> ((1 : Int32).toUInt32 &&& Int32.toUInt32 31)).toInt32) &&& (1431655765 : Int32))).toUInt32 >>> ((2 : Int32).toUInt32 &&& Int32.toUInt32 31)).toInt32) &&& (858993459 : Int32))).toUInt32 >>> ((4 : Int32).toUInt32 &&& Int32.toUInt32 31)).toInt32)) &&& (252645135 : Int32)), .int (((((x0 - (((x0.toUInt32 >>> ((1 : Int32).toUInt32 &&& Int32.toUInt32 31)).toInt32) &&& (1431655765 : Int32))) &&& (858993459 : Int32)) + ((((x0 - (((x0.toUInt32 >>> ((1 : Int32).toUInt32 &&& Int32.toUInt32 31)).toInt32) &&& (1431655765 : Int32))).toUInt32 >>> ((2 : Int32).toUInt32 &&& Int32.toUInt32 31)).toInt32) &&& (858993459 : Int32))) + (((((x0 - (((x0.toUInt32 >>> ((1 : Int32).toUInt32 &&& Int32.toUInt32 31)).toInt32) &&& (1431655765 : Int32))) &&& (858993459 : Int32)) + ((((x0 - (((x0.toUInt32 >>> ((1 : Int32).toUInt32 &&& Int32.toUInt32 31)).toInt32) &&& (1431655765 : Int32))).toUInt32 >>> ((2 : Int32).toUInt32 &&& Int32.toUInt32 31)).toInt32) &&& (858993459 : Int32))).toUInt32 >>> ((4 : Int32).toUInt32 &&& Int32.toUInt32 31)).toInt32)) &&& (252645135 : Int32))] rfl (fun _ => rfl) rfl ?_
  refine dg_s (pc' := 38) [.int (8 : Int32), .int (((((x0 - (((x0.toUInt32 >>> ((1 : Int32).toUInt32 &&& Int32.toUInt32 31)).toInt32) &&& (1431655765 : Int32))) &&& (858993459 : Int32)) + ((((x0 - (((x0.toUInt32 >>> ((1 : Int32).toUInt32 &&& Int32.toUInt32 31)).toInt32) &&& (1431655765 : Int32))).toUInt32 >>> ((2 : Int32).toUInt32 &&& Int32.toUInt32 31)).toInt32) &&& (858993459 : Int32))) + (((((x0 - (((x0.toUInt32 >>> ((1 : Int32).toUInt32 &&& Int32.toUInt32 31)).toInt32) &&& (1431655765 : Int32))) &&& (858993459 : Int32)) + ((((x0 - (((x0.toUInt32 >>> ((1 : Int32).toUInt32 &&& Int32.toUInt32 31)).toInt32) &&& (1431655765 : Int32))).toUInt32 >>> ((2 : Int32).toUInt32 &&& Int32.toUInt32 31)).toInt32) &&& (858993459 : Int32))).toUInt32 >>> ((4 : Int32).toUInt32 &&& Int32.toUInt32 31)).toInt32)) &&& (252645135 : Int32)), .int (((((x0 - (((x0.toUInt32 >>> ((1 : Int32).toUInt32 &&& Int32.toUInt32 31)).toInt32) &&& (1431655765 : Int32))) &&& (858993459 : Int32)) + ((((x0 - (((x0.toUInt32 >>> ((1 : Int32).toUInt32 &&& Int32.toUInt32 31)).toInt32) &&& (1431655765 : Int32))).toUInt32 >>> ((2 : Int32).toUInt32 &&& Int32.toUInt32 31)).toInt32) &&& (858993459 : Int32))) + (((((x0 - (((x0.toUInt32 >>> ((1 : Int32).toUInt32 &&& Int32.toUInt32 31)).toInt32) &&& (1431655765 : Int32))) &&& (858993459 : Int32)) + ((((x0 - (((x0.toUInt32 >>> ((1 : Int32).toUInt32 &&& Int32.toUInt32 31)).toInt32) &&& (1431655765 : Int32))).toUInt32 >>> ((2 : Int32).toUInt32 &&& Int32.toUInt32 31)).toInt32) &&& (858993459 : Int32))).toUInt32 >>> ((4 : Int32).toUInt32 &&& Int32.toUInt32 31)).toInt32)) &&& (252645135 : Int32))] rfl (fun _ => rfl) rfl ?_
  refine dg_s (pc' := 39) [.int (((((((x0 - (((x0.toUInt32 >>> ((1 : Int32).toUInt32 &&& Int32.toUInt32 31)).toInt32) &&& (1431655765 : Int32))) &&& (858993459 : Int32)) + ((((x0 - (((x0.toUInt32 >>> ((1 : Int32).toUInt32 &&& Int32.toUInt32 31)).toInt32) &&& (1431655765 : Int32))).toUInt32 >>> ((2 : Int32).toUInt32 &&& Int32.toUInt32 31)).toInt32) &&& (858993459 : Int32))) + (((((x0 - (((x0.toUInt32 >>> ((1 : Int32).toUInt32 &&& Int32.toUInt32 31)).toInt32) &&& (1431655765 : Int32))) &&& (858993459 : Int32)) + ((((x0 - (((x0.toUInt32 >>> ((1 : Int32).toUInt32 &&& Int32.toUInt32 31)).toInt32) &&& (1431655765 : Int32))).toUInt32 >>> ((2 : Int32).toUInt32 &&& Int32.toUInt32 31)).toInt32) &&& (858993459 : Int32))).toUInt32 >>> ((4 : Int32).toUInt32 &&& Int32.toUInt32 31)).toInt32)) &&& (252645135 : Int32)).toUInt32 >>> ((8 : Int32).toUInt32 &&& Int32.toUInt32 31)).toInt32), .int (((((x0 - (((x0.toUInt32 >>> ((1 : Int32).toUInt32 &&& Int32.toUInt32 31)).toInt32) &&& (1431655765 : Int32))) &&& (858993459 : Int32)) + ((((x0 - (((x0.toUInt32 >>> ((1 : Int32).toUInt32 &&& Int32.toUInt32 31)).toInt32) &&& (1431655765 : Int32))).toUInt32 >>> ((2 : Int32).toUInt32 &&& Int32.toUInt32 31)).toInt32) &&& (858993459 : Int32))) + (((((x0 - (((x0.toUInt32 >>> ((1 : Int32).toUInt32 &&& Int32.toUInt32 31)).toInt32) &&& (1431655765 : Int32))) &&& (858993459 : Int32)) + ((((x0 - (((x0.toUInt32 >>> ((1 : Int32).toUInt32 &&& Int32.toUInt32 31)).toInt32) &&& (1431655765 : Int32))).toUInt32 >>> ((2 : Int32).toUInt32 &&& Int32.toUInt32 31)).toInt32) &&& (858993459 : Int32))).toUInt32 >>> ((4 : Int32).toUInt32 &&& Int32.toUInt32 31)).toInt32)) &&& (252645135 : Int32))] rfl (fun _ => rfl) rfl ?_
  refine dg_s (pc' := 40) [.int ((((((x0 - (((x0.toUInt32 >>> ((1 : Int32).toUInt32 &&& Int32.toUInt32 31)).toInt32) &&& (1431655765 : Int32))) &&& (858993459 : Int32)) + ((((x0 - (((x0.toUInt32 >>> ((1 : Int32).toUInt32 &&& Int32.toUInt32 31)).toInt32) &&& (1431655765 : Int32))).toUInt32 >>> ((2 : Int32).toUInt32 &&& Int32.toUInt32 31)).toInt32) &&& (858993459 : Int32))) + (((((x0 - (((x0.toUInt32 >>> ((1 : Int32).toUInt32 &&& Int32.toUInt32 31)).toInt32) &&& (1431655765 : Int32))) &&& (858993459 : Int32)) + ((((x0 - (((x0.toUInt32 >>> ((1 : Int32).toUInt32 &&& Int32.toUInt32 31)).toInt32) &&& (1431655765 : Int32))).toUInt32 >>> ((2 : Int32).toUInt32 &&& Int32.toUInt32 31)).toInt32) &&& (858993459 : Int32))).toUInt32 >>> ((4 : Int32).toUInt32 &&& Int32.toUInt32 31)).toInt32)) &&& (252645135 : Int32)) + (((((((x0 - (((x0.toUInt32 >>> ((1 : Int32).toUInt32 &&& Int32.toUInt32 31)).toInt32) &&& (1431655765 : Int32))) &&& (858993459 : Int32)) + ((((x0 - (((x0.toUInt32 >>> ((1 : Int32).toUInt32 &&& Int32.toUInt32 31)).toInt32) &&& (1431655765 : Int32))).toUInt32 >>> ((2 : Int32).toUInt32 &&& Int32.toUInt32 31)).toInt32) &&& (858993459 : Int32))) + (((((x0 - (((x0.toUInt32 >>> ((1 : Int32).toUInt32 &&& Int32.toUInt32 31)).toInt32) &&& (1431655765 : Int32))) &&& (858993459 : Int32)) + ((((x0 - (((x0.toUInt32 >>> ((1 : Int32).toUInt32 &&& Int32.toUInt32 31)).toInt32) &&& (1431655765 : Int32))).toUInt32 >>> ((2 : Int32).toUInt32 &&& Int32.toUInt32 31)).toInt32) &&& (858993459 : Int32))).toUInt32 >>> ((4 : Int32).toUInt32 &&& Int32.toUInt32 31)).toInt32)) &&& (252645135 : Int32)).toUInt32 >>> ((8 : Int32).toUInt32 &&& Int32.toUInt32 31)).toInt32))] rfl (fun _ => rfl) rfl ?_
  refine dg_L (pc' := 41) [(0, .int ((((((x0 - (((x0.toUInt32 >>> ((1 : Int32).toUInt32 &&& Int32.toUInt32 31)).toInt32) &&& (1431655765 : Int32))) &&& (858993459 : Int32)) + ((((x0 - (((x0.toUInt32 >>> ((1 : Int32).toUInt32 &&& Int32.toUInt32 31)).toInt32) &&& (1431655765 : Int32))).toUInt32 >>> ((2 : Int32).toUInt32 &&& Int32.toUInt32 31)).toInt32) &&& (858993459 : Int32))) + (((((x0 - (((x0.toUInt32 >>> ((1 : Int32).toUInt32 &&& Int32.toUInt32 31)).toInt32) &&& (1431655765 : Int32))) &&& (858993459 : Int32)) + ((((x0 - (((x0.toUInt32 >>> ((1 : Int32).toUInt32 &&& Int32.toUInt32 31)).toInt32) &&& (1431655765 : Int32))).toUInt32 >>> ((2 : Int32).toUInt32 &&& Int32.toUInt32 31)).toInt32) &&& (858993459 : Int32))).toUInt32 >>> ((4 : Int32).toUInt32 &&& Int32.toUInt32 31)).toInt32)) &&& (252645135 : Int32)) + (((((((x0 - (((x0.toUInt32 >>> ((1 : Int32).toUInt32 &&& Int32.toUInt32 31)).toInt32) &&& (1431655765 : Int32))) &&& (858993459 : Int32)) + ((((x0 - (((x0.toUInt32 >>> ((1 : Int32).toUInt32 &&& Int32.toUInt32 31)).toInt32) &&& (1431655765 : Int32))).toUInt32 >>> ((2 : Int32).toUInt32 &&& Int32.toUInt32 31)).toInt32) &&& (858993459 : Int32))) + (((((x0 - (((x0.toUInt32 >>> ((1 : Int32).toUInt32 &&& Int32.toUInt32 31)).toInt32) &&& (1431655765 : Int32))) &&& (858993459 : Int32)) + ((((x0 - (((x0.toUInt32 >>> ((1 : Int32).toUInt32 &&& Int32.toUInt32 31)).toInt32) &&& (1431655765 : Int32))).toUInt32 >>> ((2 : Int32).toUInt32 &&& Int32.toUInt32 31)).toInt32) &&& (858993459 : Int32))).toUInt32 >>> ((4 : Int32).toUInt32 &&& Int32.toUInt32 31)).toInt32)) &&& (252645135 : Int32)).toUInt32 >>> ((8 : Int32).toUInt32 &&& Int32.toUInt32 31)).toInt32)))] [] rfl (fun _ => rfl) rfl ?_
  refine dg_s (pc' := 42) [.int ((((((x0 - (((x0.toUInt32 >>> ((1 : Int32).toUInt32 &&& Int32.toUInt32 31)).toInt32) &&& (1431655765 : Int32))) &&& (858993459 : Int32)) + ((((x0 - (((x0.toUInt32 >>> ((1 : Int32).toUInt32 &&& Int32.toUInt32 31)).toInt32) &&& (1431655765 : Int32))).toUInt32 >>> ((2 : Int32).toUInt32 &&& Int32.toUInt32 31)).toInt32) &&& (858993459 : Int32))) + (((((x0 - (((x0.toUInt32 >>> ((1 : Int32).toUInt32 &&& Int32.toUInt32 31)).toInt32) &&& (1431655765 : Int32))) &&& (858993459 : Int32)) + ((((x0 - (((x0.toUInt32 >>> ((1 : Int32).toUInt32 &&& Int32.toUInt32 31)).toInt32) &&& (1431655765 : Int32))).toUInt32 >>> ((2 : Int32).toUInt32 &&& Int32.toUInt32 31)).toInt32) &&& (858993459 : Int32))).toUInt32 >>> ((4 : Int32).toUInt32 &&& Int32.toUInt32 31)).toInt32)) &&& (252645135 : Int32)) + (((((((x0 - (((x0.toUInt32 >>> ((1 : Int32).toUInt32 &&& Int32.toUInt32 31)).toInt32) &&& (1431655765 : Int32))) &&& (858993459 : Int32)) + ((((x0 - (((x0.toUInt32 >>> ((1 : Int32).toUInt32 &&& Int32.toUInt32 31)).toInt32) &&& (1431655765 : Int32))).toUInt32 >>> ((2 : Int32).toUInt32 &&& Int32.toUInt32 31)).toInt32) &&& (858993459 : Int32))) + (((((x0 - (((x0.toUInt32 >>> ((1 : Int32).toUInt32 &&& Int32.toUInt32 31)).toInt32) &&& (1431655765 : Int32))) &&& (858993459 : Int32)) + ((((x0 - (((x0.toUInt32 >>> ((1 : Int32).toUInt32 &&& Int32.toUInt32 31)).toInt32) &&& (1431655765 : Int32))).toUInt32 >>> ((2 : Int32).toUInt32 &&& Int32.toUInt32 31)).toInt32) &&& (858993459 : Int32))).toUInt32 >>> ((4 : Int32).toUInt32 &&& Int32.toUInt32 31)).toInt32)) &&& (252645135 : Int32)).toUInt32 >>> ((8 : Int32).toUInt32 &&& Int32.toUInt32 31)).toInt32))] rfl (fun _ => rfl) rfl ?_
  refine dg_s (pc' := 43) [.int ((((((x0 - (((x0.toUInt32 >>> ((1 : Int32).toUInt32 &&& Int32.toUInt32 31)).toInt32) &&& (1431655765 : Int32))) &&& (858993459 : Int32)) + ((((x0 - (((x0.toUInt32 >>> ((1 : Int32).toUInt32 &&& Int32.toUInt32 31)).toInt32) &&& (1431655765 : Int32))).toUInt32 >>> ((2 : Int32).toUInt32 &&& Int32.toUInt32 31)).toInt32) &&& (858993459 : Int32))) + (((((x0 - (((x0.toUInt32 >>> ((1 : Int32).toUInt32 &&& Int32.toUInt32 31)).toInt32) &&& (1431655765 : Int32))) &&& (858993459 : Int32)) + ((((x0 - (((x0.toUInt32 >>> ((1 : Int32).toUInt32 &&& Int32.toUInt32 31)).toInt32) &&& (1431655765 : Int32))).toUInt32 >>> ((2 : Int32).toUInt32 &&& Int32.toUInt32 31)).toInt32) &&& (858993459 : Int32))).toUInt32 >>> ((4 : Int32).toUInt32 &&& Int32.toUInt32 31)).toInt32)) &&& (252645135 : Int32)) + (((((((x0 - (((x0.toUInt32 >>> ((1 : Int32).toUInt32 &&& Int32.toUInt32 31)).toInt32) &&& (1431655765 : Int32))) &&& (858993459 : Int32)) + ((((x0 - (((x0.toUInt32 >>> ((1 : Int32).toUInt32 &&& Int32.toUInt32 31)).toInt32) &&& (1431655765 : Int32))).toUInt32 >>> ((2 : Int32).toUInt32 &&& Int32.toUInt32 31)).toInt32) &&& (858993459 : Int32))) + (((((x0 - (((x0.toUInt32 >>> ((1 : Int32).toUInt32 &&& Int32.toUInt32 31)).toInt32) &&& (1431655765 : Int32))) &&& (858993459 : Int32)) + ((((x0 - (((x0.toUInt32 >>> ((1 : Int32).toUInt32 &&& Int32.toUInt32 31)).toInt32) &&& (1431655765 : Int32))).toUInt32 >>> ((2 : Int32).toUInt32 &&& Int32.toUInt32 31)).toInt32) &&& (858993459 : Int32))).toUInt32 >>> ((4 : Int32).toUInt32 &&& Int32.toUInt32 31)).toInt32)) &&& (252645135 : Int32)).toUInt32 >>> ((8 : Int32).toUInt32 &&& Int32.toUInt32 31)).toInt32)), .int ((((((x0 - (((x0.toUInt32 >>> ((1 : Int32).toUInt32 &&& Int32.toUInt32 31)).toInt32) &&& (1431655765 : Int32))) &&& (858993459 : Int32)) + ((((x0 - (((x0.toUInt32 >>> ((1 : Int32).toUInt32 &&& Int32.toUInt32 31)).toInt32) &&& (1431655765 : Int32))).toUInt32 >>> ((2 : Int32).toUInt32 &&& Int32.toUInt32 31)).toInt32) &&& (858993459 : Int32))) + (((((x0 - (((x0.toUInt32 >>> ((1 : Int32).toUInt32 &&& Int32.toUInt32 31)).toInt32) &&& (1431655765 : Int32))) &&& (858993459 : Int32)) + ((((x0 - (((x0.toUInt32 >>> ((1 : Int32).toUInt32 &&& Int32.toUInt32 31)).toInt32) &&& (1431655765 : Int32))).toUInt32 >>> ((2 : Int32).toUInt32 &&& Int32.toUInt32 31)).toInt32) &&& (858993459 : Int32))).toUInt32 >>> ((4 : Int32).toUInt32 &&& Int32.toUInt32 31)).toInt32)) &&& (252645135 : Int32)) + (((((((x0 - (((x0.toUInt32 >>> ((1 : Int32).toUInt32 &&& Int32.toUInt32 31)).toInt32) &&& (1431655765 : Int32))) &&& (858993459 : Int32)) + ((((x0 - (((x0.toUInt32 >>> ((1 : Int32).toUInt32 &&& Int32.toUInt32 31)).toInt32) &&& (1431655765 : Int32))).toUInt32 >>> ((2 : Int32).toUInt32 &&& Int32.toUInt32 31)).toInt32) &&& (858993459 : Int32))) + (((((x0 - (((x0.toUInt32 >>> ((1 : Int32).toUInt32 &&& Int32.toUInt32 31)).toInt32) &&& (1431655765 : Int32))) &&& (858993459 : Int32)) + ((((x0 - (((x0.toUInt32 >>> ((1 : Int32).toUInt32 &&& Int32.toUInt32 31)).toInt32) &&& (1431655765 : Int32))).toUInt32 >>> ((2 : Int32).toUInt32 &&& Int32.toUInt32 31)).toInt32) &&& (858993459 : Int32))).toUInt32 >>> ((4 : Int32).toUInt32 &&& Int32.toUInt32 31)).toInt32)) &&& (252645135 : Int32)).toUInt32 >>> ((8 : Int32).toUInt32 &&& Int32.toUInt32 31)).toInt32))] rfl (fun _ => rfl) rfl ?_
  refine dg_s (pc' := 45) [.int (16 : Int32), .int ((((((x0 - (((x0.toUInt32 >>> ((1 : Int32).toUInt32 &&& Int32.toUInt32 31)).toInt32) &&& (1431655765 : Int32))) &&& (858993459 : Int32)) + ((((x0 - (((x0.toUInt32 >>> ((1 : Int32).toUInt32 &&& Int32.toUInt32 31)).toInt32) &&& (1431655765 : Int32))).toUInt32 >>> ((2 : Int32).toUInt32 &&& Int32.toUInt32 31)).toInt32) &&& (858993459 : Int32))) + (((((x0 - (((x0.toUInt32 >>> ((1 : Int32).toUInt32 &&& Int32.toUInt32 31)).toInt32) &&& (1431655765 : Int32))) &&& (858993459 : Int32)) + ((((x0 - (((x0.toUInt32 >>> ((1 : Int32).toUInt32 &&& Int32.toUInt32 31)).toInt32) &&& (1431655765 : Int32))).toUInt32 >>> ((2 : Int32).toUInt32 &&& Int32.toUInt32 31)).toInt32) &&& (858993459 : Int32))).toUInt32 >>> ((4 : Int32).toUInt32 &&& Int32.toUInt32 31)).toInt32)) &&& (252645135 : Int32)) + (((((((x0 - (((x0.toUInt32 >>> ((1 : Int32).toUInt32 &&& Int32.toUInt32 31)).toInt32) &&& (1431655765 : Int32))) &&& (858993459 : Int32)) + ((((x0 - (((x0.toUInt32 >>> ((1 : Int32).toUInt32 &&& Int32.toUInt32 31)).toInt32) &&& (1431655765 : Int32))).toUInt32 >>> ((2 : Int32).toUInt32 &&& Int32.toUInt32 31)).toInt32) &&& (858993459 : Int32))) + (((((x0 - (((x0.toUInt32 >>> ((1 : Int32).toUInt32 &&& Int32.toUInt32 31)).toInt32) &&& (1431655765 : Int32))) &&& (858993459 : Int32)) + ((((x0 - (((x0.toUInt32 >>> ((1 : Int32).toUInt32 &&& Int32.toUInt32 31)).toInt32) &&& (1431655765 : Int32))).toUInt32 >>> ((2 : Int32).toUInt32 &&& Int32.toUInt32 31)).toInt32) &&& (858993459 : Int32))).toUInt32 >>> ((4 : Int32).toUInt32 &&& Int32.toUInt32 31)).toInt32)) &&& (252645135 : Int32)).toUInt32 >>> ((8 : Int32).toUInt32 &&& Int32.toUInt32 31)).toInt32)), .int ((((((x0 - (((x0.toUInt32 >>> ((1 : Int32).toUInt32 &&& Int32.toUInt32 31)).toInt32) &&& (1431655765 : Int32))) &&& (858993459 : Int32)) + ((((x0 - (((x0.toUInt32 >>> ((1 : Int32).toUInt32 &&& Int32.toUInt32 31)).toInt32) &&& (1431655765 : Int32))).toUInt32 >>> ((2 : Int32).toUInt32 &&& Int32.toUInt32 31)).toInt32) &&& (858993459 : Int32))) + (((((x0 - (((x0.toUInt32 >>> ((1 : Int32).toUInt32 &&& Int32.toUInt32 31)).toInt32) &&& (1431655765 : Int32))) &&& (858993459 : Int32)) + ((((x0 - (((x0.toUInt32 >>> ((1 : Int32).toUInt32 &&& Int32.toUInt32 31)).toInt32) &&& (1431655765 : Int32))).toUInt32 >>> ((2 : Int32).toUInt32 &&& Int32.toUInt32 31)).toInt32) &&& (858993459 : Int32))).toUInt32 >>> ((4 : Int32).toUInt32 &&& Int32.toUInt32 31)).toInt32)) &&& (252645135 : Int32)) + (((((((x0 - (((x0.toUInt32 >>> ((1 : Int32).toUInt32 &&& Int32.toUInt32 31)).toInt32) &&& (1431655765 : Int32))) &&& (858993459 : Int32)) + ((((x0 - (((x0.toUInt32 >>> ((1 : Int32).toUInt32 &&& Int32.toUInt32 31)).toInt32) &&& (1431655765 : Int32))).toUInt32 >>> ((2 : Int32).toUInt32 &&& Int32.toUInt32 31)).toInt32) &&& (858993459 : Int32))) + (((((x0 - (((x0.toUInt32 >>> ((1 : Int32).toUInt32 &&& Int32.toUInt32 31)).toInt32) &&& (1431655765 : Int32))) &&& (858993459 : Int32)) + ((((x0 - (((x0.toUInt32 >>> ((1 : Int32).toUInt32 &&& Int32.toUInt32 31)).toInt32) &&& (1431655765 : Int32))).toUInt32 >>> ((2 : Int32).toUInt32 &&& Int32.toUInt32 31)).toInt32) &&& (858993459 : Int32))).toUInt32 >>> ((4 : Int32).toUInt32 &&& Int32.toUInt32 31)).toInt32)) &&& (252645135 : Int32)).toUInt32 >>> ((8 : Int32).toUInt32 &&& Int32.toUInt32 31)).toInt32))] rfl (fun _ => rfl) rfl ?_
  refine dg_s (pc' := 46) [.int ((((((((x0 - (((x0.toUInt32 >>> ((1 : Int32).toUInt32 &&& Int32.toUInt32 31)).toInt32) &&& (1431655765 : Int32))) &&& (858993459 : Int32)) + ((((x0 - (((x0.toUInt32 >>> ((1 : Int32).toUInt32 &&& Int32.toUInt32 31)).toInt32) &&& (1431655765 : Int32))).toUInt32 >>> ((2 : Int32).toUInt32 &&& Int32.toUInt32 31)).toInt32) &&& (858993459 : Int32))) + (((((x0 - (((x0.toUInt32 >>> ((1 : Int32).toUInt32 &&& Int32.toUInt32 31)).toInt32) &&& (1431655765 : Int32))) &&& (858993459 : Int32)) + ((((x0 - (((x0.toUInt32 >>> ((1 : Int32).toUInt32 &&& Int32.toUInt32 31)).toInt32) &&& (1431655765 : Int32))).toUInt32 >>> ((2 : Int32).toUInt32 &&& Int32.toUInt32 31)).toInt32) &&& (858993459 : Int32))).toUInt32 >>> ((4 : Int32).toUInt32 &&& Int32.toUInt32 31)).toInt32)) &&& (252645135 : Int32)) + (((((((x0 - (((x0.toUInt32 >>> ((1 : Int32).toUInt32 &&& Int32.toUInt32 31)).toInt32) &&& (1431655765 : Int32))) &&& (858993459 : Int32)) + ((((x0 - (((x0.toUInt32 >>> ((1 : Int32).toUInt32 &&& Int32.toUInt32 31)).toInt32) &&& (1431655765 : Int32))).toUInt32 >>> ((2 : Int32).toUInt32 &&& Int32.toUInt32 31)).toInt32) &&& (858993459 : Int32))) + (((((x0 - (((x0.toUInt32 >>> ((1 : Int32).toUInt32 &&& Int32.toUInt32 31)).toInt32) &&& (1431655765 : Int32))) &&& (858993459 : Int32)) + ((((x0 - (((x0.toUInt32 >>> ((1 : Int32).toUInt32 &&& Int32.toUInt32 31)).toInt32) &&& (1431655765 : Int32))).toUInt32 >>> ((2 : Int32).toUInt32 &&& Int32.toUInt32 31)).toInt32) &&& (858993459 : Int32))).toUInt32 >>> ((4 : Int32).toUInt32 &&& Int32.toUInt32 31)).toInt32)) &&& (252645135 : Int32)).toUInt32 >>> ((8 : Int32).toUInt32 &&& Int32.toUInt32 31)).toInt32)).toUInt32 >>> ((16 : Int32).toUInt32 &&& Int32.toUInt32 31)).toInt32), .int ((((((x0 - (((x0.toUInt32 >>> ((1 : Int32).toUInt32 &&& Int32.toUInt32 31)).toInt32) &&& (1431655765 : Int32))) &&& (858993459 : Int32)) + ((((x0 - (((x0.toUInt32 >>> ((1 : Int32).toUInt32 &&& Int32.toUInt32 31)).toInt32) &&& (1431655765 : Int32))).toUInt32 >>> ((2 : Int32).toUInt32 &&& Int32.toUInt32 31)).toInt32) &&& (858993459 : Int32))) + (((((x0 - (((x0.toUInt32 >>> ((1 : Int32).toUInt32 &&& Int32.toUInt32 31)).toInt32) &&& (1431655765 : Int32))) &&& (858993459 : Int32)) + ((((x0 - (((x0.toUInt32 >>> ((1 : Int32).toUInt32 &&& Int32.toUInt32 31)).toInt32) &&& (1431655765 : Int32))).toUInt32 >>> ((2 : Int32).toUInt32 &&& Int32.toUInt32 31)).toInt32) &&& (858993459 : Int32))).toUInt32 >>> ((4 : Int32).toUInt32 &&& Int32.toUInt32 31)).toInt32)) &&& (252645135 : Int32)) + (((((((x0 - (((x0.toUInt32 >>> ((1 : Int32).toUInt32 &&& Int32.toUInt32 31)).toInt32) &&& (1431655765 : Int32))) &&& (858993459 : Int32)) + ((((x0 - (((x0.toUInt32 >>> ((1 : Int32).toUInt32 &&& Int32.toUInt32 31)).toInt32) &&& (1431655765 : Int32))).toUInt32 >>> ((2 : Int32).toUInt32 &&& Int32.toUInt32 31)).toInt32) &&& (858993459 : Int32))) + (((((x0 - (((x0.toUInt32 >>> ((1 : Int32).toUInt32 &&& Int32.toUInt32 31)).toInt32) &&& (1431655765 : Int32))) &&& (858993459 : Int32)) + ((((x0 - (((x0.toUInt32 >>> ((1 : Int32).toUInt32 &&& Int32.toUInt32 31)).toInt32) &&& (1431655765 : Int32))).toUInt32 >>> ((2 : Int32).toUInt32 &&& Int32.toUInt32 31)).toInt32) &&& (858993459 : Int32))).toUInt32 >>> ((4 : Int32).toUInt32 &&& Int32.toUInt32 31)).toInt32)) &&& (252645135 : Int32)).toUInt32 >>> ((8 : Int32).toUInt32 &&& Int32.toUInt32 31)).toInt32))] rfl (fun _ => rfl) rfl ?_
  refine dg_s (pc' := 47) [.int (((((((x0 - (((x0.toUInt32 >>> ((1 : Int32).toUInt32 &&& Int32.toUInt32 31)).toInt32) &&& (1431655765 : Int32))) &&& (858993459 : Int32)) + ((((x0 - (((x0.toUInt32 >>> ((1 : Int32).toUInt32 &&& Int32.toUInt32 31)).toInt32) &&& (1431655765 : Int32))).toUInt32 >>> ((2 : Int32).toUInt32 &&& Int32.toUInt32 31)).toInt32) &&& (858993459 : Int32))) + (((((x0 - (((x0.toUInt32 >>> ((1 : Int32).toUInt32 &&& Int32.toUInt32 31)).toInt32) &&& (1431655765 : Int32))) &&& (858993459 : Int32)) + ((((x0 - (((x0.toUInt32 >>> ((1 : Int32).toUInt32 &&& Int32.toUInt32 31)).toInt32) &&& (1431655765 : Int32))).toUInt32 >>> ((2 : Int32).toUInt32 &&& Int32.toUInt32 31)).toInt32) &&& (858993459 : Int32))).toUInt32 >>> ((4 : Int32).toUInt32 &&& Int32.toUInt32 31)).toInt32)) &&& (252645135 : Int32)) + (((((((x0 - (((x0.toUInt32 >>> ((1 : Int32).toUInt32 &&& Int32.toUInt32 31)).toInt32) &&& (1431655765 : Int32))) &&& (858993459 : Int32)) + ((((x0 - (((x0.toUInt32 >>> ((1 : Int32).toUInt32 &&& Int32.toUInt32 31)).toInt32) &&& (1431655765 : Int32))).toUInt32 >>> ((2 : Int32).toUInt32 &&& Int32.toUInt32 31)).toInt32) &&& (858993459 : Int32))) + (((((x0 - (((x0.toUInt32 >>> ((1 : Int32).toUInt32 &&& Int32.toUInt32 31)).toInt32) &&& (1431655765 : Int32))) &&& (858993459 : Int32)) + ((((x0 - (((x0.toUInt32 >>> ((1 : Int32).toUInt32 &&& Int32.toUInt32 31)).toInt32) &&& (1431655765 : Int32))).toUInt32 >>> ((2 : Int32).toUInt32 &&& Int32.toUInt32 31)).toInt32) &&& (858993459 : Int32))).toUInt32 >>> ((4 : Int32).toUInt32 &&& Int32.toUInt32 31)).toInt32)) &&& (252645135 : Int32)).toUInt32 >>> ((8 : Int32).toUInt32 &&& Int32.toUInt32 31)).toInt32)) + ((((((((x0 - (((x0.toUInt32 >>> ((1 : Int32).toUInt32 &&& Int32.toUInt32 31)).toInt32) &&& (1431655765 : Int32))) &&& (858993459 : Int32)) + ((((x0 - (((x0.toUInt32 >>> ((1 : Int32).toUInt32 &&& Int32.toUInt32 31)).toInt32) &&& (1431655765 : Int32))).toUInt32 >>> ((2 : Int32).toUInt32 &&& Int32.toUInt32 31)).toInt32) &&& (858993459 : Int32))) + (((((x0 - (((x0.toUInt32 >>> ((1 : Int32).toUInt32 &&& Int32.toUInt32 31)).toInt32) &&& (1431655765 : Int32))) &&& (858993459 : Int32)) + ((((x0 - (((x0.toUInt32 >>> ((1 : Int32).toUInt32 &&& Int32.toUInt32 31)).toInt32) &&& (1431655765 : Int32))).toUInt32 >>> ((2 : Int32).toUInt32 &&& Int32.toUInt32 31)).toInt32) &&& (858993459 : Int32))).toUInt32 >>> ((4 : Int32).toUInt32 &&& Int32.toUInt32 31)).toInt32)) &&& (252645135 : Int32)) + (((((((x0 - (((x0.toUInt32 >>> ((1 : Int32).toUInt32 &&& Int32.toUInt32 31)).toInt32) &&& (1431655765 : Int32))) &&& (858993459 : Int32)) + ((((x0 - (((x0.toUInt32 >>> ((1 : Int32).toUInt32 &&& Int32.toUInt32 31)).toInt32) &&& (1431655765 : Int32))).toUInt32 >>> ((2 : Int32).toUInt32 &&& Int32.toUInt32 31)).toInt32) &&& (858993459 : Int32))) + (((((x0 - (((x0.toUInt32 >>> ((1 : Int32).toUInt32 &&& Int32.toUInt32 31)).toInt32) &&& (1431655765 : Int32))) &&& (858993459 : Int32)) + ((((x0 - (((x0.toUInt32 >>> ((1 : Int32).toUInt32 &&& Int32.toUInt32 31)).toInt32) &&& (1431655765 : Int32))).toUInt32 >>> ((2 : Int32).toUInt32 &&& Int32.toUInt32 31)).toInt32) &&& (858993459 : Int32))).toUInt32 >>> ((4 : Int32).toUInt32 &&& Int32.toUInt32 31)).toInt32)) &&& (252645135 : Int32)).toUInt32 >>> ((8 : Int32).toUInt32 &&& Int32.toUInt32 31)).toInt32)).toUInt32 >>> ((16 : Int32).toUInt32 &&& Int32.toUInt32 31)).toInt32))] rfl (fun _ => rfl) rfl ?_
  refine dg_L (pc' := 48) [(0, .int (((((((x0 - (((x0.toUInt32 >>> ((1 : Int32).toUInt32 &&& Int32.toUInt32 31)).toInt32) &&& (1431655765 : Int32))) &&& (858993459 : Int32)) + ((((x0 - (((x0.toUInt32 >>> ((1 : Int32).toUInt32 &&& Int32.toUInt32 31)).toInt32) &&& (1431655765 : Int32))).toUInt32 >>> ((2 : Int32).toUInt32 &&& Int32.toUInt32 31)).toInt32) &&& (858993459 : Int32))) + (((((x0 - (((x0.toUInt32 >>> ((1 : Int32).toUInt32 &&& Int32.toUInt32 31)).toInt32) &&& (1431655765 : Int32))) &&& (858993459 : Int32)) + ((((x0 - (((x0.toUInt32 >>> ((1 : Int32).toUInt32 &&& Int32.toUInt32 31)).toInt32) &&& (1431655765 : Int32))).toUInt32 >>> ((2 : Int32).toUInt32 &&& Int32.toUInt32 31)).toInt32) &&& (858993459 : Int32))).toUInt32 >>> ((4 : Int32).toUInt32 &&& Int32.toUInt32 31)).toInt32)) &&& (252645135 : Int32)) + (((((((x0 - (((x0.toUInt32 >>> ((1 : Int32).toUInt32 &&& Int32.toUInt32 31)).toInt32) &&& (1431655765 : Int32))) &&& (858993459 : Int32)) + ((((x0 - (((x0.toUInt32 >>> ((1 : Int32).toUInt32 &&& Int32.toUInt32 31)).toInt32) &&& (1431655765 : Int32))).toUInt32 >>> ((2 : Int32).toUInt32 &&& Int32.toUInt32 31)).toInt32) &&& (858993459 : Int32))) + (((((x0 - (((x0.toUInt32 >>> ((1 : Int32).toUInt32 &&& Int32.toUInt32 31)).toInt32) &&& (1431655765 : Int32))) &&& (858993459 : Int32)) + ((((x0 - (((x0.toUInt32 >>> ((1 : Int32).toUInt32 &&& Int32.toUInt32 31)).toInt32) &&& (1431655765 : Int32))).toUInt32 >>> ((2 : Int32).toUInt32 &&& Int32.toUInt32 31)).toInt32) &&& (858993459 : Int32))).toUInt32 >>> ((4 : Int32).toUInt32 &&& Int32.toUInt32 31)).toInt32)) &&& (252645135 : Int32)).toUInt32 >>> ((8 : Int32).toUInt32 &&& Int32.toUInt32 31)).toInt32)) + ((((((((x0 - (((x0.toUInt32 >>> ((1 : Int32).toUInt32 &&& Int32.toUInt32 31)).toInt32) &&& (1431655765 : Int32))) &&& (858993459 : Int32)) + ((((x0 - (((x0.toUInt32 >>> ((1 : Int32).toUInt32 &&& Int32.toUInt32 31)).toInt32) &&& (1431655765 : Int32))).toUInt32 >>> ((2 : Int32).toUInt32 &&& Int32.toUInt32 31)).toInt32) &&& (858993459 : Int32))) + (((((x0 - (((x0.toUInt32 >>> ((1 : Int32).toUInt32 &&& Int32.toUInt32 31)).toInt32) &&& (1431655765 : Int32))) &&& (858993459 : Int32)) + ((((x0 - (((x0.toUInt32 >>> ((1 : Int32).toUInt32 &&& Int32.toUInt32 31)).toInt32) &&& (1431655765 : Int32))).toUInt32 >>> ((2 : Int32).toUInt32 &&& Int32.toUInt32 31)).toInt32) &&& (858993459 : Int32))).toUInt32 >>> ((4 : Int32).toUInt32 &&& Int32.toUInt32 31)).toInt32)) &&& (252645135 : Int32)) + (((((((x0 - (((x0.toUInt32 >>> ((1 : Int32).toUInt32 &&& Int32.toUInt32 31)).toInt32) &&& (1431655765 : Int32))) &&& (858993459 : Int32)) + ((((x0 - (((x0.toUInt32 >>> ((1 : Int32).toUInt32 &&& Int32.toUInt32 31)).toInt32) &&& (1431655765 : Int32))).toUInt32 >>> ((2 : Int32).toUInt32 &&& Int32.toUInt32 31)).toInt32) &&& (858993459 : Int32))) + (((((x0 - (((x0.toUInt32 >>> ((1 : Int32).toUInt32 &&& Int32.toUInt32 31)).toInt32) &&& (1431655765 : Int32))) &&& (858993459 : Int32)) + ((((x0 - (((x0.toUInt32 >>> ((1 : Int32).toUInt32 &&& Int32.toUInt32 31)).toInt32) &&& (1431655765 : Int32))).toUInt32 >>> ((2 : Int32).toUInt32 &&& Int32.toUInt32 31)).toInt32) &&& (858993459 : Int32))).toUInt32 >>> ((4 : Int32).toUInt32 &&& Int32.toUInt32 31)).toInt32)) &&& (252645135 : Int32)).toUInt32 >>> ((8 : Int32).toUInt32 &&& Int32.toUInt32 31)).toInt32)).toUInt32 >>> ((16 : Int32).toUInt32 &&& Int32.toUInt32 31)).toInt32)))] [] rfl (fun _ => rfl) rfl ?_
  refine dg_s (pc' := 49) [.int (((((((x0 - (((x0.toUInt32 >>> ((1 : Int32).toUInt32 &&& Int32.toUInt32 31)).toInt32) &&& (1431655765 : Int32))) &&& (858993459 : Int32)) + ((((x0 - (((x0.toUInt32 >>> ((1 : Int32).toUInt32 &&& Int32.toUInt32 31)).toInt32) &&& (1431655765 : Int32))).toUInt32 >>> ((2 : Int32).toUInt32 &&& Int32.toUInt32 31)).toInt32) &&& (858993459 : Int32))) + (((((x0 - (((x0.toUInt32 >>> ((1 : Int32).toUInt32 &&& Int32.toUInt32 31)).toInt32) &&& (1431655765 : Int32))) &&& (858993459 : Int32)) + ((((x0 - (((x0.toUInt32 >>> ((1 : Int32).toUInt32 &&& Int32.toUInt32 31)).toInt32) &&& (1431655765 : Int32))).toUInt32 >>> ((2 : Int32).toUInt32 &&& Int32.toUInt32 31)).toInt32) &&& (858993459 : Int32))).toUInt32 >>> ((4 : Int32).toUInt32 &&& Int32.toUInt32 31)).toInt32)) &&& (252645135 : Int32)) + (((((((x0 - (((x0.toUInt32 >>> ((1 : Int32).toUInt32 &&& Int32.toUInt32 31)).toInt32) &&& (1431655765 : Int32))) &&& (858993459 : Int32)) + ((((x0 - (((x0.toUInt32 >>> ((1 : Int32).toUInt32 &&& Int32.toUInt32 31)).toInt32) &&& (1431655765 : Int32))).toUInt32 >>> ((2 : Int32).toUInt32 &&& Int32.toUInt32 31)).toInt32) &&& (858993459 : Int32))) + (((((x0 - (((x0.toUInt32 >>> ((1 : Int32).toUInt32 &&& Int32.toUInt32 31)).toInt32) &&& (1431655765 : Int32))) &&& (858993459 : Int32)) + ((((x0 - (((x0.toUInt32 >>> ((1 : Int32).toUInt32 &&& Int32.toUInt32 31)).toInt32) &&& (1431655765 : Int32))).toUInt32 >>> ((2 : Int32).toUInt32 &&& Int32.toUInt32 31)).toInt32) &&& (858993459 : Int32))).toUInt32 >>> ((4 : Int32).toUInt32 &&& Int32.toUInt32 31)).toInt32)) &&& (252645135 : Int32)).toUInt32 >>> ((8 : Int32).toUInt32 &&& Int32.toUInt32 31)).toInt32)) + ((((((((x0 - (((x0.toUInt32 >>> ((1 : Int32).toUInt32 &&& Int32.toUInt32 31)).toInt32) &&& (1431655765 : Int32))) &&& (858993459 : Int32)) + ((((x0 - (((x0.toUInt32 >>> ((1 : Int32).toUInt32 &&& Int32.toUInt32 31)).toInt32) &&& (1431655765 : Int32))).toUInt32 >>> ((2 : Int32).toUInt32 &&& Int32.toUInt32 31)).toInt32) &&& (858993459 : Int32))) + (((((x0 - (((x0.toUInt32 >>> ((1 : Int32).toUInt32 &&& Int32.toUInt32 31)).toInt32) &&& (1431655765 : Int32))) &&& (858993459 : Int32)) + ((((x0 - (((x0.toUInt32 >>> ((1 : Int32).toUInt32 &&& Int32.toUInt32 31)).toInt32) &&& (1431655765 : Int32))).toUInt32 >>> ((2 : Int32).toUInt32 &&& Int32.toUInt32 31)).toInt32) &&& (858993459 : Int32))).toUInt32 >>> ((4 : Int32).toUInt32 &&& Int32.toUInt32 31)).toInt32)) &&& (252645135 : Int32)) + (((((((x0 - (((x0.toUInt32 >>> ((1 : Int32).toUInt32 &&& Int32.toUInt32 31)).toInt32) &&& (1431655765 : Int32))) &&& (858993459 : Int32)) + ((((x0 - (((x0.toUInt32 >>> ((1 : Int32).toUInt32 &&& Int32.toUInt32 31)).toInt32) &&& (1431655765 : Int32))).toUInt32 >>> ((2 : Int32).toUInt32 &&& Int32.toUInt32 31)).toInt32) &&& (858993459 : Int32))) + (((((x0 - (((x0.toUInt32 >>> ((1 : Int32).toUInt32 &&& Int32.toUInt32 31)).toInt32) &&& (1431655765 : Int32))) &&& (858993459 : Int32)) + ((((x0 - (((x0.toUInt32 >>> ((1 : Int32).toUInt32 &&& Int32.toUInt32 31)).toInt32) &&& (1431655765 : Int32))).toUInt32 >>> ((2 : Int32).toUInt32 &&& Int32.toUInt32 31)).toInt32) &&& (858993459 : Int32))).toUInt32 >>> ((4 : Int32).toUInt32 &&& Int32.toUInt32 31)).toInt32)) &&& (252645135 : Int32)).toUInt32 >>> ((8 : Int32).toUInt32 &&& Int32.toUInt32 31)).toInt32)).toUInt32 >>> ((16 : Int32).toUInt32 &&& Int32.toUInt32 31)).toInt32))] rfl (fun _ => rfl) rfl ?_
  refine dg_s (pc' := 51) [.int (63 : Int32), .int (((((((x0 - (((x0.toUInt32 >>> ((1 : Int32).toUInt32 &&& Int32.toUInt32 31)).toInt32) &&& (1431655765 : Int32))) &&& (858993459 : Int32)) + ((((x0 - (((x0.toUInt32 >>> ((1 : Int32).toUInt32 &&& Int32.toUInt32 31)).toInt32) &&& (1431655765 : Int32))).toUInt32 >>> ((2 : Int32).toUInt32 &&& Int32.toUInt32 31)).toInt32) &&& (858993459 : Int32))) + (((((x0 - (((x0.toUInt32 >>> ((1 : Int32).toUInt32 &&& Int32.toUInt32 31)).toInt32) &&& (1431655765 : Int32))) &&& (858993459 : Int32)) + ((((x0 - (((x0.toUInt32 >>> ((1 : Int32).toUInt32 &&& Int32.toUInt32 31)).toInt32) &&& (1431655765 : Int32))).toUInt32 >>> ((2 : Int32).toUInt32 &&& Int32.toUInt32 31)).toInt32) &&& (858993459 : Int32))).toUInt32 >>> ((4 : Int32).toUInt32 &&& Int32.toUInt32 31)).toInt32)) &&& (252645135 : Int32)) + (((((((x0 - (((x0.toUInt32 >>> ((1 : Int32).toUInt32 &&& Int32.toUInt32 31)).toInt32) &&& (1431655765 : Int32))) &&& (858993459 : Int32)) + ((((x0 - (((x0.toUInt32 >>> ((1 : Int32).toUInt32 &&& Int32.toUInt32 31)).toInt32) &&& (1431655765 : Int32))).toUInt32 >>> ((2 : Int32).toUInt32 &&& Int32.toUInt32 31)).toInt32) &&& (858993459 : Int32))) + (((((x0 - (((x0.toUInt32 >>> ((1 : Int32).toUInt32 &&& Int32.toUInt32 31)).toInt32) &&& (1431655765 : Int32))) &&& (858993459 : Int32)) + ((((x0 - (((x0.toUInt32 >>> ((1 : Int32).toUInt32 &&& Int32.toUInt32 31)).toInt32) &&& (1431655765 : Int32))).toUInt32 >>> ((2 : Int32).toUInt32 &&& Int32.toUInt32 31)).toInt32) &&& (858993459 : Int32))).toUInt32 >>> ((4 : Int32).toUInt32 &&& Int32.toUInt32 31)).toInt32)) &&& (252645135 : Int32)).toUInt32 >>> ((8 : Int32).toUInt32 &&& Int32.toUInt32 31)).toInt32)) + ((((((((x0 - (((x0.toUInt32 >>> ((1 : Int32).toUInt32 &&& Int32.toUInt32 31)).toInt32) &&& (1431655765 : Int32))) &&& (858993459 : Int32)) + ((((x0 - (((x0.toUInt32 >>> ((1 : Int32).toUInt32 &&& Int32.toUInt32 31)).toInt32) &&& (1431655765 : Int32))).toUInt32 >>> ((2 : Int32).toUInt32 &&& Int32.toUInt32 31)).toInt32) &&& (858993459 : Int32))) + (((((x0 - (((x0.toUInt32 >>> ((1 : Int32).toUInt32 &&& Int32.toUInt32 31)).toInt32) &&& (1431655765 : Int32))) &&& (858993459 : Int32)) + ((((x0 - (((x0.toUInt32 >>> ((1 : Int32).toUInt32 &&& Int32.toUInt32 31)).toInt32) &&& (1431655765 : Int32))).toUInt32 >>> ((2 : Int32).toUInt32 &&& Int32.toUInt32 31)).toInt32) &&& (858993459 : Int32))).toUInt32 >>> ((4 : Int32).toUInt32 &&& Int32.toUInt32 31)).toInt32)) &&& (252645135 : Int32)) + (((((((x0 - (((x0.toUInt32 >>> ((1 : Int32).toUInt32 &&& Int32.toUInt32 31)).toInt32) &&& (1431655765 : Int32))) &&& (858993459 : Int32)) + ((((x0 - (((x0.toUInt32 >>> ((1 : Int32).toUInt32 &&& Int32.toUInt32 31)).toInt32) &&& (1431655765 : Int32))).toUInt32 >>> ((2 : Int32).toUInt32 &&& Int32.toUInt32 31)).toInt32) &&& (858993459 : Int32))) + (((((x0 - (((x0.toUInt32 >>> ((1 : Int32).toUInt32 &&& Int32.toUInt32 31)).toInt32) &&& (1431655765 : Int32))) &&& (858993459 : Int32)) + ((((x0 - (((x0.toUInt32 >>> ((1 : Int32).toUInt32 &&& Int32.toUInt32 31)).toInt32) &&& (1431655765 : Int32))).toUInt32 >>> ((2 : Int32).toUInt32 &&& Int32.toUInt32 31)).toInt32) &&& (858993459 : Int32))).toUInt32 >>> ((4 : Int32).toUInt32 &&& Int32.toUInt32 31)).toInt32)) &&& (252645135 : Int32)).toUInt32 >>> ((8 : Int32).toUInt32 &&& Int32.toUInt32 31)).toInt32)).toUInt32 >>> ((16 : Int32).toUInt32 &&& Int32.toUInt32 31)).toInt32))] rfl (fun _ => rfl) rfl ?_
  refine dg_s (pc' := 52) [.int ((((((((x0 - (((x0.toUInt32 >>> ((1 : Int32).toUInt32 &&& Int32.toUInt32 31)).toInt32) &&& (1431655765 : Int32))) &&& (858993459 : Int32)) + ((((x0 - (((x0.toUInt32 >>> ((1 : Int32).toUInt32 &&& Int32.toUInt32 31)).toInt32) &&& (1431655765 : Int32))).toUInt32 >>> ((2 : Int32).toUInt32 &&& Int32.toUInt32 31)).toInt32) &&& (858993459 : Int32))) + (((((x0 - (((x0.toUInt32 >>> ((1 : Int32).toUInt32 &&& Int32.toUInt32 31)).toInt32) &&& (1431655765 : Int32))) &&& (858993459 : Int32)) + ((((x0 - (((x0.toUInt32 >>> ((1 : Int32).toUInt32 &&& Int32.toUInt32 31)).toInt32) &&& (1431655765 : Int32))).toUInt32 >>> ((2 : Int32).toUInt32 &&& Int32.toUInt32 31)).toInt32) &&& (858993459 : Int32))).toUInt32 >>> ((4 : Int32).toUInt32 &&& Int32.toUInt32 31)).toInt32)) &&& (252645135 : Int32)) + (((((((x0 - (((x0.toUInt32 >>> ((1 : Int32).toUInt32 &&& Int32.toUInt32 31)).toInt32) &&& (1431655765 : Int32))) &&& (858993459 : Int32)) + ((((x0 - (((x0.toUInt32 >>> ((1 : Int32).toUInt32 &&& Int32.toUInt32 31)).toInt32) &&& (1431655765 : Int32))).toUInt32 >>> ((2 : Int32).toUInt32 &&& Int32.toUInt32 31)).toInt32) &&& (858993459 : Int32))) + (((((x0 - (((x0.toUInt32 >>> ((1 : Int32).toUInt32 &&& Int32.toUInt32 31)).toInt32) &&& (1431655765 : Int32))) &&& (858993459 : Int32)) + ((((x0 - (((x0.toUInt32 >>> ((1 : Int32).toUInt32 &&& Int32.toUInt32 31)).toInt32) &&& (1431655765 : Int32))).toUInt32 >>> ((2 : Int32).toUInt32 &&& Int32.toUInt32 31)).toInt32) &&& (858993459 : Int32))).toUInt32 >>> ((4 : Int32).toUInt32 &&& Int32.toUInt32 31)).toInt32)) &&& (252645135 : Int32)).toUInt32 >>> ((8 : Int32).toUInt32 &&& Int32.toUInt32 31)).toInt32)) + ((((((((x0 - (((x0.toUInt32 >>> ((1 : Int32).toUInt32 &&& Int32.toUInt32 31)).toInt32) &&& (1431655765 : Int32))) &&& (858993459 : Int32)) + ((((x0 - (((x0.toUInt32 >>> ((1 : Int32).toUInt32 &&& Int32.toUInt32 31)).toInt32) &&& (1431655765 : Int32))).toUInt32 >>> ((2 : Int32).toUInt32 &&& Int32.toUInt32 31)).toInt32) &&& (858993459 : Int32))) + (((((x0 - (((x0.toUInt32 >>> ((1 : Int32).toUInt32 &&& Int32.toUInt32 31)).toInt32) &&& (1431655765 : Int32))) &&& (858993459 : Int32)) + ((((x0 - (((x0.toUInt32 >>> ((1 : Int32).toUInt32 &&& Int32.toUInt32 31)).toInt32) &&& (1431655765 : Int32))).toUInt32 >>> ((2 : Int32).toUInt32 &&& Int32.toUInt32 31)).toInt32) &&& (858993459 : Int32))).toUInt32 >>> ((4 : Int32).toUInt32 &&& Int32.toUInt32 31)).toInt32)) &&& (252645135 : Int32)) + (((((((x0 - (((x0.toUInt32 >>> ((1 : Int32).toUInt32 &&& Int32.toUInt32 31)).toInt32) &&& (1431655765 : Int32))) &&& (858993459 : Int32)) + ((((x0 - (((x0.toUInt32 >>> ((1 : Int32).toUInt32 &&& Int32.toUInt32 31)).toInt32) &&& (1431655765 : Int32))).toUInt32 >>> ((2 : Int32).toUInt32 &&& Int32.toUInt32 31)).toInt32) &&& (858993459 : Int32))) + (((((x0 - (((x0.toUInt32 >>> ((1 : Int32).toUInt32 &&& Int32.toUInt32 31)).toInt32) &&& (1431655765 : Int32))) &&& (858993459 : Int32)) + ((((x0 - (((x0.toUInt32 >>> ((1 : Int32).toUInt32 &&& Int32.toUInt32 31)).toInt32) &&& (1431655765 : Int32))).toUInt32 >>> ((2 : Int32).toUInt32 &&& Int32.toUInt32 31)).toInt32) &&& (858993459 : Int32))).toUInt32 >>> ((4 : Int32).toUInt32 &&& Int32.toUInt32 31)).toInt32)) &&& (252645135 : Int32)).toUInt32 >>> ((8 : Int32).toUInt32 &&& Int32.toUInt32 31)).toInt32)).toUInt32 >>> ((16 : Int32).toUInt32 &&& Int32.toUInt32 31)).toInt32)) &&& (63 : Int32))] rfl (fun _ => rfl) rfl ?_
  exact dw_r (some (.inl (some (.int ((((((((x0 - (((x0.toUInt32 >>> ((1 : Int32).toUInt32 &&& Int32.toUInt32 31)).toInt32) &&& (1431655765 : Int32))) &&& (858993459 : Int32)) + ((((x0 - (((x0.toUInt32 >>> ((1 : Int32).toUInt32 &&& Int32.toUInt32 31)).toInt32) &&& (1431655765 : Int32))).toUInt32 >>> ((2 : Int32).toUInt32 &&& Int32.toUInt32 31)).toInt32) &&& (858993459 : Int32))) + (((((x0 - (((x0.toUInt32 >>> ((1 : Int32).toUInt32 &&& Int32.toUInt32 31)).toInt32) &&& (1431655765 : Int32))) &&& (858993459 : Int32)) + ((((x0 - (((x0.toUInt32 >>> ((1 : Int32).toUInt32 &&& Int32.toUInt32 31)).toInt32) &&& (1431655765 : Int32))).toUInt32 >>> ((2 : Int32).toUInt32 &&& Int32.toUInt32 31)).toInt32) &&& (858993459 : Int32))).toUInt32 >>> ((4 : Int32).toUInt32 &&& Int32.toUInt32 31)).toInt32)) &&& (252645135 : Int32)) + (((((((x0 - (((x0.toUInt32 >>> ((1 : Int32).toUInt32 &&& Int32.toUInt32 31)).toInt32) &&& (1431655765 : Int32))) &&& (858993459 : Int32)) + ((((x0 - (((x0.toUInt32 >>> ((1 : Int32).toUInt32 &&& Int32.toUInt32 31)).toInt32) &&& (1431655765 : Int32))).toUInt32 >>> ((2 : Int32).toUInt32 &&& Int32.toUInt32 31)).toInt32) &&& (858993459 : Int32))) + (((((x0 - (((x0.toUInt32 >>> ((1 : Int32).toUInt32 &&& Int32.toUInt32 31)).toInt32) &&& (1431655765 : Int32))) &&& (858993459 : Int32)) + ((((x0 - (((x0.toUInt32 >>> ((1 : Int32).toUInt32 &&& Int32.toUInt32 31)).toInt32) &&& (1431655765 : Int32))).toUInt32 >>> ((2 : Int32).toUInt32 &&& Int32.toUInt32 31)).toInt32) &&& (858993459 : Int32))).toUInt32 >>> ((4 : Int32).toUInt32 &&& Int32.toUInt32 31)).toInt32)) &&& (252645135 : Int32)).toUInt32 >>> ((8 : Int32).toUInt32 &&& Int32.toUInt32 31)).toInt32)) + ((((((((x0 - (((x0.toUInt32 >>> ((1 : Int32).toUInt32 &&& Int32.toUInt32 31)).toInt32) &&& (1431655765 : Int32))) &&& (858993459 : Int32)) + ((((x0 - (((x0.toUInt32 >>> ((1 : Int32).toUInt32 &&& Int32.toUInt32 31)).toInt32) &&& (1431655765 : Int32))).toUInt32 >>> ((2 : Int32).toUInt32 &&& Int32.toUInt32 31)).toInt32) &&& (858993459 : Int32))) + (((((x0 - (((x0.toUInt32 >>> ((1 : Int32).toUInt32 &&& Int32.toUInt32 31)).toInt32) &&& (1431655765 : Int32))) &&& (858993459 : Int32)) + ((((x0 - (((x0.toUInt32 >>> ((1 : Int32).toUInt32 &&& Int32.toUInt32 31)).toInt32) &&& (1431655765 : Int32))).toUInt32 >>> ((2 : Int32).toUInt32 &&& Int32.toUInt32 31)).toInt32) &&& (858993459 : Int32))).toUInt32 >>> ((4 : Int32).toUInt32 &&& Int32.toUInt32 31)).toInt32)) &&& (252645135 : Int32)) + (((((((x0 - (((x0.toUInt32 >>> ((1 : Int32).toUInt32 &&& Int32.toUInt32 31)).toInt32) &&& (1431655765 : Int32))) &&& (858993459 : Int32)) + ((((x0 - (((x0.toUInt32 >>> ((1 : Int32).toUInt32 &&& Int32.toUInt32 31)).toInt32) &&& (1431655765 : Int32))).toUInt32 >>> ((2 : Int32).toUInt32 &&& Int32.toUInt32 31)).toInt32) &&& (858993459 : Int32))) + (((((x0 - (((x0.toUInt32 >>> ((1 : Int32).toUInt32 &&& Int32.toUInt32 31)).toInt32) &&& (1431655765 : Int32))) &&& (858993459 : Int32)) + ((((x0 - (((x0.toUInt32 >>> ((1 : Int32).toUInt32 &&& Int32.toUInt32 31)).toInt32) &&& (1431655765 : Int32))).toUInt32 >>> ((2 : Int32).toUInt32 &&& Int32.toUInt32 31)).toInt32) &&& (858993459 : Int32))).toUInt32 >>> ((4 : Int32).toUInt32 &&& Int32.toUInt32 31)).toInt32)) &&& (252645135 : Int32)).toUInt32 >>> ((8 : Int32).toUInt32 &&& Int32.toUInt32 31)).toInt32)).toUInt32 >>> ((16 : Int32).toUInt32 &&& Int32.toUInt32 31)).toInt32)) &&& (63 : Int32))), m))) rfl (fun _ => rfl) (kR _)
def H_J6_bitCount_0f7a4 : dc_H := fun As m k => match As with
  | [.int x0] => k (some (.int (d_J6_bitCount_0f7a4 x0 m))) m
  | _ => dc_kz
theorem H_J6_bitCount_0f7a4_ok {u : Nat} : dc_cok u 229 H_J6_bitCount_0f7a4 := fun M' hG N As m k P hz hP => by
  obtain rfl : ab_M_J6_bitCount_0f7a4 = M' := Option.some.inj hG
  unfold H_J6_bitCount_0f7a4 at hP
  split at hP
  · rename_i x0
    exact dc_pv.imp (k_J6_bitCount_0f7a4 (Φ := fun (t : Int32) r m' => P (k (some (.int t)) m) → P (k r m')) x0 m (fun _  h => h) rfl) (fun r m' h => h hP)
  · exact absurd hP hz
