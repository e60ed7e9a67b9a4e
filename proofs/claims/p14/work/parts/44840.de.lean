/-! ===== methods as functions (written by a program) ===== -/
def C_X4_append : List (Nat × dc_H) := []
theorem CO_X4_append {u : Nat} : dc_CO u C_X4_append := dc_CO_nil
def S_X4_append : List (Nat × List Nat) := [(18, [0, 1, 3])]
noncomputable def d_X4_append_l18b (x0 : Nat) (x1 : Int64) (x3 : Int32) (m : dc_M) : Option ((Int32 × dc_M) ⊕ (Int32 × dc_M)) :=
  (if (Int32.toInt x3) < 0 then some (Sum.inr (((1 : Int32), m))) else some (Sum.inl ((x3 + (-8)), (dc_wi (dc_wi m x0 1 ((m.1 x0 1) + (1 : Int32))) (x0 + 1) (Int32.toNatClampNeg (m.1 x0 1)) (dc_nar ((dc_wi m x0 1 ((m.1 x0 1) + (1 : Int32))).2.2.2 (x0 + 1)).1 (((Int64.toInt32 (x1 >>> (Int32.toInt64 x3 &&& 63)))).toInt8.toInt32))))))
noncomputable def d_X4_append_l18s (x0 : Nat) (x1 : Int64) : (Int32 × dc_M) → Option ((Int32 × dc_M) ⊕ (Int32 × dc_M)) := fun s => d_X4_append_l18b x0 x1 s.1 s.2
noncomputable def d_X4_append_l18 (x0 : Nat) (x1 : Int64) (x3 : Int32) (m : dc_M) : Option (Int32 × dc_M) := dc_lp (d_X4_append_l18s x0 x1) (x3, m)
set_option maxHeartbeats 8000000 in
theorem k_X4_append_l18 {u : Nat} {Φ : (Option (Int32 × dc_M)) → Option Value → dc_M → Prop} (x0 : Nat) (x1 : Int64) (kR : ∀ (v : Int32) (m : dc_M), Φ (some ((v, m))) (some (.int v)) m) : ∀ (N : Nat), ∀ (x3 : Int32) (m : dc_M) (lv : ab_L), ab_lk lv 0 = some (.ref x0) → ab_lk lv 1 = some (.long x1) → ab_lk lv 3 = some (.int x3) → dc_pv u N ab_M_X4_append 18 lv [] m (Φ (d_X4_append_l18 x0 x1 x3 m)) := by
  intro N
  induction N with
  | zero => intros; exact dc_pv_zero
  | succ N ih =>
    intro x3 m lv f0 f1 f3
    refine dc_ok (C := C_X4_append) (S := S_X4_append) CO_X4_append 400 18 [(0, .ref x0), (1, .long x1), (3, .int x3)] lv [] m (dc_sub_cons f0 (dc_sub_cons f1 (dc_sub_cons f3 (dc_sub_nil)))) ?_
    unfold d_X4_append_l18
    rw [dc_lp_eq]
    show (fun t x => dc_lf u N ab_M_X4_append (Φ (Option.bind t (dc_bk (d_X4_append_l18s x0 x1)))) x) (d_X4_append_l18b x0 x1 x3 m) _
    dsimp only
    unfold d_X4_append_l18b
    refine dg_s (pc' := 19) [.int x3] rfl (fun _ => rfl) rfl ?_
    refine dw_if (fun t => Φ (Option.bind t (dc_bk (d_X4_append_l18s x0 x1)))) ((Int32.toInt x3) < 0) [] 49 22 rfl (fun _ => rfl) (fun c0 => ?_) (fun c0 => ?_)
    · refine dw_g rfl ?_
      refine dg_s (pc' := 50) [.int (1 : Int32)] rfl (fun _ => rfl) rfl ?_
      exact dw_r (some (.inl (some (.int (1 : Int32)), m))) rfl (fun _ => rfl) (kR _ _)
    · refine dw_g rfl ?_
      refine dg_s (pc' := 23) [.ref x0] rfl (fun _ => rfl) rfl ?_
      refine dg_s (pc' := 26) [.ref (x0 + 1)] rfl (fun _ => rfl) rfl ?_
      refine dg_s (pc' := 27) [.ref x0, .ref (x0 + 1)] rfl (fun _ => rfl) rfl ?_
      refine dg_s (pc' := 28) [.ref x0, .ref x0, .ref (x0 + 1)] rfl (fun _ => rfl) rfl ?_
      refine dg_s (pc' := 31) [.int (m.1 x0 1), .ref x0, .ref (x0 + 1)] rfl (fun _ => rfl) rfl ?_
      refine dg_s (pc' := 32) [.int (m.1 x0 1), .ref x0, .int (m.1 x0 1), .ref (x0 + 1)] rfl (fun _ => rfl) rfl ?_
      refine dg_s (pc' := 33) [.int (1 : Int32), .int (m.1 x0 1), .ref x0, .int (m.1 x0 1), .ref (x0 + 1)] rfl (fun _ => rfl) rfl ?_
      refine dg_s (pc' := 34) [.int ((m.1 x0 1) + (1 : Int32)), .ref x0, .int (m.1 x0 1), .ref (x0 + 1)] rfl (fun _ => rfl) rfl ?_
      refine dg_m (pc' := 37) (dc_wi m x0 1 ((m.1 x0 1) + (1 : Int32))) [.int (m.1 x0 1), .ref (x0 + 1)] rfl (fun _ => rfl) rfl ?_
      refine dg_s (pc' := 38) [.long x1, .int (m.1 x0 1), .ref (x0 + 1)] rfl (fun _ => rfl) rfl ?_
      refine dg_s (pc' := 39) [.int x3, .long x1, .int (m.1 x0 1), .ref (x0 + 1)] rfl (fun _ => rfl) rfl ?_
      refine dg_s (pc' := 40) [.long (x1 >>> (Int32.toInt64 x3 &&& 63)), .int (m.1 x0 1), .ref (x0 + 1)] rfl (fun _ => rfl) rfl ?_
      refine dg_s (pc' := 41) [.int (Int64.toInt32 (x1 >>> (Int32.toInt64 x3 &&& 63))), .int (m.1 x0 1), .ref (x0 + 1)] rfl (fun _ => rfl) rfl ?_
      refine dg_s (pc' := 42) [.int (((Int64.toInt32 (x1 >>> (Int32.toInt64 x3 &&& 63)))).toInt8.toInt32), .int (m.1 x0 1), .ref (x0 + 1)] rfl (fun _ => rfl) rfl ?_
      refine dg_m (pc' := 43) (dc_wi (dc_wi m x0 1 ((m.1 x0 1) + (1 : Int32))) (x0 + 1) (Int32.toNatClampNeg (m.1 x0 1)) (dc_nar ((dc_wi m x0 1 ((m.1 x0 1) + (1 : Int32))).2.2.2 (x0 + 1)).1 (((Int64.toInt32 (x1 >>> (Int32.toInt64 x3 &&& 63)))).toInt8.toInt32))) [] rfl (fun _ => rfl) rfl ?_
      refine dg_L (pc' := 46) [(3, .int (x3 + (-8))), (0, .ref x0), (1, .long x1)] [] rfl (fun _ => rfl) rfl ?_
      refine dw_s (pc' := 18) [] rfl (fun _ => rfl) ?_
      exact dw_j rfl (fun lv1 hv => ih (x3 + (-8)) (dc_wi (dc_wi m x0 1 ((m.1 x0 1) + (1 : Int32))) (x0 + 1) (Int32.toNatClampNeg (m.1 x0 1)) (dc_nar ((dc_wi m x0 1 ((m.1 x0 1) + (1 : Int32))).2.2.2 (x0 + 1)).1 (((Int64.toInt32 (x1 >>> (Int32.toInt64 x3 &&& 63)))).toInt8.toInt32))) lv1 (hv.1 _ rfl) (hv.2.1 _ rfl) (hv.2.2.1 _ rfl))
noncomputable def d_X4_append (x0 : Nat) (x1 : Int64) (m : dc_M) : Option (Int32 × dc_M) :=
  (if (Int32.toInt ((m.1 x0 1) + (8 : Int32))) ≤ 240 then (d_X4_append_l18 x0 x1 (56 : Int32) m) else some (((0 : Int32), m)))
set_option maxHeartbeats 8000000 in
theorem k_X4_append {u : Nat} {N : Nat} {Φ : (Option (Int32 × dc_M)) → Option Value → dc_M → Prop} (x0 : Nat) (x1 : Int64) (m : dc_M) (kR : ∀ (v : Int32) (m : dc_M), Φ (some ((v, m))) (some (.int v)) m)  {lv : ab_L} (f0 : ab_lk lv 0 = some (.ref x0)) (f1 : ab_lk lv 1 = some (.long x1)) : dc_pv u N ab_M_X4_append 0 lv [] m (Φ (d_X4_append x0 x1 m)) := by
  refine dc_pv.mono (dc_ok (C := C_X4_append) (S := S_X4_append) CO_X4_append 400 0 [(0, .ref x0), (1, .long x1)] lv [] m (dc_sub_cons f0 (dc_sub_cons f1 (dc_sub_nil))) ?_) (Nat.le_succ N)
  unfold d_X4_append
  refine dg_s (pc' := 1) [.ref x0] rfl (fun _ => rfl) rfl ?_
  refine dg_s (pc' := 4) [.int (m.1 x0 1)] rfl (fun _ => rfl) rfl ?_
  refine dg_s (pc' := 6) [.int (8 : Int32), .int (m.1 x0 1)] rfl (fun _ => rfl) rfl ?_
  refine dg_s (pc' := 7) [.int ((m.1 x0 1) + (8 : Int32))] rfl (fun _ => rfl) rfl ?_
  refine dg_s (pc' := 10) [.int (240 : Int32), .int ((m.1 x0 1) + (8 : Int32))] rfl (fun _ => rfl) rfl ?_
  refine dw_if (fun t => Φ t) ((Int32.toInt ((m.1 x0 1) + (8 : Int32))) ≤ 240) [] 15 13 rfl (fun _ => rfl) (fun c0 => ?_) (fun c0 => ?_)
  · refine dw_g rfl ?_
    refine dg_s (pc' := 17) [.int (56 : Int32)] rfl (fun _ => rfl) rfl ?_
    refine dw_L (pc' := 18) [(3, .int (56 : Int32)), (0, .ref x0), (1, .long x1)] [] rfl (fun _ => rfl) ?_
    exact dw_j rfl (fun lv1 hv => k_X4_append_l18 (Φ := (fun t => Φ t)) x0 x1 (fun _a _b => kR _a _b) N  (56 : Int32) m lv1 (hv.1 _ rfl) (hv.2.1 _ rfl) (hv.2.2.1 _ rfl))
  · refine dw_g rfl ?_
    refine dg_s (pc' := 14) [.int (0 : Int32)] rfl (fun _ => rfl) rfl ?_
    exact dw_r (some (.inl (some (.int (0 : Int32)), m))) rfl (fun _ => rfl) (kR _ _)
noncomputable def H_X4_append : dc_H := fun As m k => match As with
  | [.ref x0, .long x1] => (d_X4_append x0 x1 m).bind (fun q => k (some (.int q.1)) q.2)
  | _ => dc_kz
theorem H_X4_append_ok {u : Nat} : dc_cok u 46 H_X4_append := fun M' hG N As m k P hz hP => by
  obtain rfl : ab_M_X4_append = M' := Option.some.inj hG
  unfold H_X4_append at hP
  split at hP
  · rename_i x0 x1
    exact dc_pv.imp (k_X4_append (Φ := fun (t : Option (Int32 × dc_M)) r m' => P (t.bind (fun q => k (some (.int q.1)) q.2)) → P (k r m')) x0 x1 m (fun _ _ h => h) rfl rfl) (fun r m' h => h hP)
  · exact absurd hP hz
noncomputable def C_X9_feed : List (Nat × dc_H) := [(46, H_X4_append)]
theorem CO_X9_feed {u : Nat} : dc_CO u C_X9_feed := dc_CO_cons H_X4_append_ok (dc_CO_nil)
def S_X9_feed : List (Nat × List Nat) := []
noncomputable def d_X9_feed (x0 : Nat) (x1 : Int64) (m : dc_M) : Option (Int32 × dc_M) :=
  ((d_X4_append (x0 + 1) x1 m).bind (fun q1 => (if (Int32.toInt q1.1) = 0 then some (((-3 : Int32), q1.2)) else some (((q1.2.1 (x0 + 1) 1), q1.2)))))
set_option maxHeartbeats 8000000 in
theorem k_X9_feed {u : Nat} {N : Nat} {Φ : (Option (Int32 × dc_M)) → Option Value → dc_M → Prop} (x0 : Nat) (x1 : Int64) (m : dc_M) (kR : ∀ (v : Int32) (m : dc_M), Φ (some ((v, m))) (some (.int v)) m)  {lv : ab_L} (f0 : ab_lk lv 0 = some (.ref x0)) (f1 : ab_lk lv 1 = some (.long x1)) : dc_pv u N ab_M_X9_feed 0 lv [] m (Φ (d_X9_feed x0 x1 m)) := by
  refine dc_pv.mono (dc_ok (C := C_X9_feed) (S := S_X9_feed) CO_X9_feed 400 0 [(0, .ref x0), (1, .long x1)] lv [] m (dc_sub_cons f0 (dc_sub_cons f1 (dc_sub_nil))) ?_) (Nat.le_succ N)
  unfold d_X9_feed
  refine dg_s (pc' := 1) [.ref x0] rfl (fun _ => rfl) rfl ?_
  refine dg_s (pc' := 4) [.ref (x0 + 1)] rfl (fun _ => rfl) rfl ?_
  refine dg_s (pc' := 5) [.long x1, .ref (x0 + 1)] rfl (fun _ => rfl) rfl ?_
  refine dw_b (fun t => Φ t) (pc' := 8) (fun q1 => [.int q1.1]) (fun q1 => q1.2) rfl (fun _ => rfl) (fun q1 => ?_)
  refine dw_g rfl ?_
  refine dw_if (fun t => Φ t) ((Int32.toInt q1.1) = 0) [] 21 11 rfl (fun _ => rfl) (fun c0 => ?_) (fun c0 => ?_)
  · refine dw_g rfl ?_
    refine dg_s (pc' := 23) [.int (-3 : Int32)] rfl (fun _ => rfl) rfl ?_
    exact dw_r (some (.inl (some (.int (-3 : Int32)), q1.2))) rfl (fun _ => rfl) (kR _ _)
  · refine dw_g rfl ?_
    refine dg_s (pc' := 12) [.ref x0] rfl (fun _ => rfl) rfl ?_
    refine dg_s (pc' := 15) [.ref (x0 + 1)] rfl (fun _ => rfl) rfl ?_
    refine dg_s (pc' := 18) [.int (q1.2.1 (x0 + 1) 1)] rfl (fun _ => rfl) rfl ?_
    refine dg_s (pc' := 23) [.int (q1.2.1 (x0 + 1) 1)] rfl (fun _ => rfl) rfl ?_
    exact dw_r (some (.inl (some (.int (q1.2.1 (x0 + 1) 1)), q1.2))) rfl (fun _ => rfl) (kR _ _)
noncomputable def H_X9_feed : dc_H := fun As m k => match As with
  | [.ref x0, .long x1] => (d_X9_feed x0 x1 m).bind (fun q => k (some (.int q.1)) q.2)
  | _ => dc_kz
theorem H_X9_feed_ok {u : Nat} : dc_cok u 101 H_X9_feed := fun M' hG N As m k P hz hP => by
  obtain rfl : ab_M_X9_feed = M' := Option.some.inj hG
  unfold H_X9_feed at hP
  split at hP
  · rename_i x0 x1
    exact dc_pv.imp (k_X9_feed (Φ := fun (t : Option (Int32 × dc_M)) r m' => P (t.bind (fun q => k (some (.int q.1)) q.2)) → P (k r m')) x0 x1 m (fun _ _ h => h) rfl rfl) (fun r m' h => h hP)
  · exact absurd hP hz
def C_X9_end : List (Nat × dc_H) := []
theorem CO_X9_end {u : Nat} : dc_CO u C_X9_end := dc_CO_nil
def S_X9_end : List (Nat × List Nat) := []
def d_X9_end (x0 : Nat) (x1 : Int32) (m : dc_M) : (Int32 × dc_M) :=
  (if (Int32.toInt x1) < 0 then ((-1 : Int32), m) else (if (Int32.toInt x1) ≤ (Int32.toInt (m.1 (x0 + 1) 1)) then ((m.1 (x0 + 1) 1), (dc_wi m (x0 + 1) 1 x1)) else ((-1 : Int32), m)))
set_option maxHeartbeats 8000000 in
theorem k_X9_end {u : Nat} {N : Nat} {Φ : (Int32 × dc_M) → Option Value → dc_M → Prop} (x0 : Nat) (x1 : Int32) (m : dc_M) (kR : ∀ (v : Int32) (m : dc_M), Φ ((v, m)) (some (.int v)) m)  {lv : ab_L} (f0 : ab_lk lv 0 = some (.ref x0)) (f1 : ab_lk lv 1 = some (.int x1)) : dc_pv u N ab_M_X9_end 0 lv [] m (Φ (d_X9_end x0 x1 m)) := by
  refine dc_pv.mono (dc_ok (C := C_X9_end) (S := S_X9_end) CO_X9_end 400 0 [(0, .ref x0), (1, .int x1)] lv [] m (dc_sub_cons f0 (dc_sub_cons f1 (dc_sub_nil))) ?_) (Nat.le_succ N)
  unfold d_X9_end
  refine dg_s (pc' := 1) [.int x1] rfl (fun _ => rfl) rfl ?_
  refine dw_if (fun t => Φ t) ((Int32.toInt x1) < 0) [] 15 4 rfl (fun _ => rfl) (fun c0 => ?_) (fun c0 => ?_)
  · refine dw_g rfl ?_
    refine dg_s (pc' := 16) [.int (-1 : Int32)] rfl (fun _ => rfl) rfl ?_
    exact dw_r (some (.inl (some (.int (-1 : Int32)), m))) rfl (fun _ => rfl) (kR _ _)
  · refine dw_g rfl ?_
    refine dg_s (pc' := 5) [.int x1] rfl (fun _ => rfl) rfl ?_
    refine dg_s (pc' := 6) [.ref x0, .int x1] rfl (fun _ => rfl) rfl ?_
    refine dg_s (pc' := 9) [.ref (x0 + 1), .int x1] rfl (fun _ => rfl) rfl ?_
    refine dg_s (pc' := 12) [.int (m.1 (x0 + 1) 1), .int x1] rfl (fun _ => rfl) rfl ?_
    refine dw_if (fun t => Φ t) ((Int32.toInt x1) ≤ (Int32.toInt (m.1 (x0 + 1) 1))) [] 17 15 rfl (fun _ => rfl) (fun c1 => ?_) (fun c1 => ?_)
    · refine dw_g rfl ?_
      refine dg_s (pc' := 18) [.ref x0] rfl (fun _ => rfl) rfl ?_
      refine dg_s (pc' := 21) [.ref (x0 + 1)] rfl (fun _ => rfl) rfl ?_
      refine dg_s (pc' := 24) [.int (m.1 (x0 + 1) 1)] rfl (fun _ => rfl) rfl ?_
      refine dg_L (pc' := 25) [(2, .int (m.1 (x0 + 1) 1)), (0, .ref x0), (1, .int x1)] [] rfl (fun _ => rfl) rfl ?_
      refine dg_s (pc' := 26) [.ref x0] rfl (fun _ => rfl) rfl ?_
      refine dg_s (pc' := 29) [.ref (x0 + 1)] rfl (fun _ => rfl) rfl ?_
      refine dg_s (pc' := 30) [.int x1, .ref (x0 + 1)] rfl (fun _ => rfl) rfl ?_
      refine dg_m (pc' := 33) (dc_wi m (x0 + 1) 1 x1) [] rfl (fun _ => rfl) rfl ?_
      refine dg_s (pc' := 34) [.int (m.1 (x0 + 1) 1)] rfl (fun _ => rfl) rfl ?_
      exact dw_r (some (.inl (some (.int (m.1 (x0 + 1) 1)), (dc_wi m (x0 + 1) 1 x1)))) rfl (fun _ => rfl) (kR _ _)
    · refine dw_g rfl ?_
      refine dg_s (pc' := 16) [.int (-1 : Int32)] rfl (fun _ => rfl) rfl ?_
      exact dw_r (some (.inl (some (.int (-1 : Int32)), m))) rfl (fun _ => rfl) (kR _ _)
def H_X9_end : dc_H := fun As m k => match As with
  | [.ref x0, .int x1] => dc_let (d_X9_end x0 x1 m) (fun q => k (some (.int q.1)) q.2)
  | _ => dc_kz
theorem H_X9_end_ok {u : Nat} : dc_cok u 102 H_X9_end := fun M' hG N As m k P hz hP => by
  obtain rfl : ab_M_X9_end = M' := Option.some.inj hG
  unfold H_X9_end at hP
  split at hP
  · rename_i x0 x1
    exact dc_pv.imp (k_X9_end (Φ := fun (t : (Int32 × dc_M)) r m' => P (dc_let t (fun q => k (some (.int q.1)) q.2)) → P (k r m')) x0 x1 m (fun _ _ h => h) rfl rfl) (fun r m' h => h hP)
  · exact absurd hP hz
def C_X3_clear : List (Nat × dc_H) := []
theorem CO_X3_clear {u : Nat} : dc_CO u C_X3_clear := dc_CO_nil
def S_X3_clear : List (Nat × List Nat) := []
def d_X3_clear (x0 : Nat) (m : dc_M) : dc_M :=
  (dc_wi (dc_wi (dc_wi (dc_wi m x0 0 (0 : Int32)) x0 1 (0 : Int32)) x0 2 (0 : Int32)) x0 13 (0 : Int32))
set_option maxHeartbeats 8000000 in
theorem k_X3_clear {u : Nat} {N : Nat} {Φ : dc_M → Option Value → dc_M → Prop} (x0 : Nat) (m : dc_M) (kR : ∀  (m : dc_M), Φ (m) (none) m)  {lv : ab_L} (f0 : ab_lk lv 0 = some (.ref x0)) : dc_pv u N ab_M_X3_clear 0 lv [] m (Φ (d_X3_clear x0 m)) := by
  refine dc_pv.mono (dc_ok (C := C_X3_clear) (S := S_X3_clear) CO_X3_clear 400 0 [(0, .ref x0)] lv [] m (dc_sub_cons f0 (dc_sub_nil)) ?_) (Nat.le_succ N)
  unfold d_X3_clear
  refine dg_s (pc' := 1) [.ref x0] rfl (fun _ => rfl) rfl ?_
  refine dg_s (pc' := 2) [.int (0 : Int32), .ref x0] rfl (fun _ => rfl) rfl ?_
  refine dg_m (pc' := 5) (dc_wi m x0 0 (0 : Int32)) [] rfl (fun _ => rfl) rfl ?_
  refine dg_s (pc' := 6) [.ref x0] rfl (fun _ => rfl) rfl ?_
  refine dg_s (pc' := 7) [.int (0 : Int32), .ref x0] rfl (fun _ => rfl) rfl ?_
  refine dg_m (pc' := 10) (dc_wi (dc_wi m x0 0 (0 : Int32)) x0 1 (0 : Int32)) [] rfl (fun _ => rfl) rfl ?_
  refine dg_s (pc' := 11) [.ref x0] rfl (fun _ => rfl) rfl ?_
  refine dg_s (pc' := 12) [.int (0 : Int32), .ref x0] rfl (fun _ => rfl) rfl ?_
  refine dg_m (pc' := 15) (dc_wi (dc_wi (dc_wi m x0 0 (0 : Int32)) x0 1 (0 : Int32)) x0 2 (0 : Int32)) [] rfl (fun _ => rfl) rfl ?_
  refine dg_s (pc' := 16) [.ref x0] rfl (fun _ => rfl) rfl ?_
  refine dg_s (pc' := 17) [.int (0 : Int32), .ref x0] rfl (fun _ => rfl) rfl ?_
  refine dg_m (pc' := 20) (dc_wi (dc_wi (dc_wi (dc_wi m x0 0 (0 : Int32)) x0 1 (0 : Int32)) x0 2 (0 : Int32)) x0 13 (0 : Int32)) [] rfl (fun _ => rfl) rfl ?_
  exact dw_r (some (.inl (none, (dc_wi (dc_wi (dc_wi (dc_wi m x0 0 (0 : Int32)) x0 1 (0 : Int32)) x0 2 (0 : Int32)) x0 13 (0 : Int32))))) rfl (fun _ => rfl) (kR _)
def H_X3_clear : dc_H := fun As m k => match As with
  | [.ref x0] => dc_let (d_X3_clear x0 m) (fun q => k (none) q)
  | _ => dc_kz
theorem H_X3_clear_ok {u : Nat} : dc_cok u 23 H_X3_clear := fun M' hG N As m k P hz hP => by
  obtain rfl : ab_M_X3_clear = M' := Option.some.inj hG
  unfold H_X3_clear at hP
  split at hP
  · rename_i x0
    exact dc_pv.imp (k_X3_clear (Φ := fun (t : dc_M) r m' => P (dc_let t (fun q => k (none) q)) → P (k r m')) x0 m (fun _ h => h) rfl) (fun r m' h => h hP)
  · exact absurd hP hz
def C_J0_isLatin1_aae02 : List (Nat × dc_H) := []
theorem CO_J0_isLatin1_aae02 {u : Nat} : dc_CO u C_J0_isLatin1_aae02 := dc_CO_nil
def S_J0_isLatin1_aae02 : List (Nat × List Nat) := []
def d_J0_isLatin1_aae02 (x0 : Nat) (m : dc_M) : Int32 :=
  (if 1 = 0 then (0 : Int32) else (if ¬ (Int32.toInt 0) = 0 then (0 : Int32) else (1 : Int32)))
set_option maxHeartbeats 8000000 in
theorem k_J0_isLatin1_aae02 {u : Nat} {N : Nat} {Φ : Int32 → Option Value → dc_M → Prop} (x0 : Nat) (m : dc_M) (kR : ∀ (v : Int32), Φ (v) (some (.int v)) m)  {lv : ab_L} (f0 : ab_lk lv 0 = some (.retAddr x0)) : dc_pv u N ab_M_J0_isLatin1_aae02 0 lv [] m (Φ (d_J0_isLatin1_aae02 x0 m)) := by
  refine dc_pv.mono (dc_ok (C := C_J0_isLatin1_aae02) (S := S_J0_isLatin1_aae02) CO_J0_isLatin1_aae02 400 0 [(0, .retAddr x0)] lv [] m (dc_sub_cons f0 (dc_sub_nil)) ?_) (Nat.le_succ N)
  unfold d_J0_isLatin1_aae02
  refine dg_s (pc' := 3) [.int (1 : Int32)] rfl (fun _ => rfl) rfl ?_
  refine dw_if (fun t => Φ t) (1 = 0) [] 17 6 rfl (fun _ => rfl) (fun c0 => ?_) (fun c0 => ?_)
  · refine dw_g rfl ?_
    refine dg_s (pc' := 18) [.int (0 : Int32)] rfl (fun _ => rfl) rfl ?_
    exact dw_r (some (.inl (some (.int (0 : Int32)), m))) rfl (fun _ => rfl) (kR _)
  · refine dw_g rfl ?_
    refine dg_s (pc' := 7) [.retAddr x0] rfl (fun _ => rfl) rfl ?_
    refine dg_s (pc' := 10) [.int 0] rfl (fun _ => rfl) rfl ?_
    refine dw_if (fun t => Φ t) (¬ (Int32.toInt 0) = 0) [] 17 13 rfl (fun _ => rfl) (fun c1 => ?_) (fun c1 => ?_)
    · refine dw_g rfl ?_
      refine dg_s (pc' := 18) [.int (0 : Int32)] rfl (fun _ => rfl) rfl ?_
      exact dw_r (some (.inl (some (.int (0 : Int32)), m))) rfl (fun _ => rfl) (kR _)
    · refine dw_g rfl ?_
      refine dg_s (pc' := 14) [.int (1 : Int32)] rfl (fun _ => rfl) rfl ?_
      refine dg_s (pc' := 18) [.int (1 : Int32)] rfl (fun _ => rfl) rfl ?_
      exact dw_r (some (.inl (some (.int (1 : Int32)), m))) rfl (fun _ => rfl) (kR _)
def H_J0_isLatin1_aae02 : dc_H := fun As m k => match As with
  | [.retAddr x0] => k (some (.int (d_J0_isLatin1_aae02 x0 m))) m
  | _ => dc_kz
theorem H_J0_isLatin1_aae02_ok {u : Nat} : dc_cok u 235 H_J0_isLatin1_aae02 := fun M' hG N As m k P hz hP => by
  obtain rfl : ab_M_J0_isLatin1_aae02 = M' := Option.some.inj hG
  unfold H_J0_isLatin1_aae02 at hP
  split at hP
  · rename_i x0
    exact dc_pv.imp (k_J0_isLatin1_aae02 (Φ := fun (t : Int32) r m' => P (k (some (.int t)) m) → P (k r m')) x0 m (fun _  h => h) rfl) (fun r m' h => h hP)
  · exact absurd hP hz
def C_J3_checkIndex_8e157 : List (Nat × dc_H) := []
theorem CO_J3_checkIndex_8e157 {u : Nat} : dc_CO u C_J3_checkIndex_8e157 := dc_CO_nil
def S_J3_checkIndex_8e157 : List (Nat × List Nat) := []
def d_J3_checkIndex_8e157 (x0 : Int32) (x1 : Int32) (x2 : Nat) (m : dc_M) : Int32 :=
  x0
set_option maxHeartbeats 8000000 in
theorem k_J3_checkIndex_8e157 {u : Nat} {N : Nat} {Φ : Int32 → Option Value → dc_M → Prop} (x0 : Int32) (x1 : Int32) (x2 : Nat) (m : dc_M) (kR : ∀ (v : Int32), Φ (v) (some (.int v)) m)  {lv : ab_L} (f0 : ab_lk lv 0 = some (.int x0)) (f1 : ab_lk lv 1 = some (.int x1)) (f2 : ab_lk lv 2 = some (.retAddr x2)) : dc_pv u N ab_M_J3_checkIndex_8e157 0 lv [] m (Φ (d_J3_checkIndex_8e157 x0 x1 x2 m)) := by
  refine dc_pv.mono (dc_ok (C := C_J3_checkIndex_8e157) (S := S_J3_checkIndex_8e157) CO_J3_checkIndex_8e157 400 0 [(0, .int x0), (1, .int x1), (2, .retAddr x2)] lv [] m (dc_sub_cons f0 (dc_sub_cons f1 (dc_sub_cons f2 (dc_sub_nil)))) ?_) (Nat.le_succ N)
  unfold d_J3_checkIndex_8e157
  refine dg_s (pc' := 1) [.int x0] rfl (fun _ => rfl) rfl ?_
  refine dw_ifl (fun t => Φ t) ((Int32.toInt x0) < 0) [] 9 4 rfl (fun _ => rfl) (fun c0 => ?_) (fun c0 => ?_)
  · refine dw_g rfl ?_
    refine dg_s (pc' := 10) [.retAddr x2] rfl (fun _ => rfl) rfl ?_
    refine dg_s (pc' := 11) [.int x0, .retAddr x2] rfl (fun _ => rfl) rfl ?_
    refine dg_s (pc' := 12) [.int x1, .int x0, .retAddr x2] rfl (fun _ => rfl) rfl ?_
    exact dw_r none rfl (fun _ => rfl) trivial
  · refine dw_g rfl ?_
    refine dg_s (pc' := 5) [.int x0] rfl (fun _ => rfl) rfl ?_
    refine dg_s (pc' := 6) [.int x1, .int x0] rfl (fun _ => rfl) rfl ?_
    refine dw_ifl (fun t => Φ t) ((Int32.toInt x0) < (Int32.toInt x1)) [] 16 9 rfl (fun _ => rfl) (fun c1 => ?_) (fun c1 => ?_)
    · refine dw_g rfl ?_
      refine dg_s (pc' := 17) [.int x0] rfl (fun _ => rfl) rfl ?_
      exact dw_r (some (.inl (some (.int x0), m))) rfl (fun _ => rfl) (kR _)
    · refine dw_g rfl ?_
      refine dg_s (pc' := 10) [.retAddr x2] rfl (fun _ => rfl) rfl ?_
      refine dg_s (pc' := 11) [.int x0, .retAddr x2] rfl (fun _ => rfl) rfl ?_
      refine dg_s (pc' := 12) [.int x1, .int x0, .retAddr x2] rfl (fun _ => rfl) rfl ?_
      exact dw_r none rfl (fun _ => rfl) trivial
def H_J3_checkIndex_8e157 : dc_H := fun As m k => match As with
  | [.int x0, .int x1, .retAddr x2] => k (some (.int (d_J3_checkIndex_8e157 x0 x1 x2 m))) m
  | _ => dc_kz
theorem H_J3_checkIndex_8e157_ok {u : Nat} : dc_cok u 239 H_J3_checkIndex_8e157 := fun M' hG N As m k P hz hP => by
  obtain rfl : ab_M_J3_checkIndex_8e157 = M' := Option.some.inj hG
  unfold H_J3_checkIndex_8e157 at hP
  split at hP
  · rename_i x0 x1 x2
    exact dc_pv.imp (k_J3_checkIndex_8e157 (Φ := fun (t : Int32) r m' => P (k (some (.int t)) m) → P (k r m')) x0 x1 x2 m (fun _  h => h) rfl rfl rfl) (fun r m' h => h hP)
  · exact absurd hP hz
def C_J0_checkIndex_df160 : List (Nat × dc_H) := [(239, H_J3_checkIndex_8e157)]
theorem CO_J0_checkIndex_df160 {u : Nat} : dc_CO u C_J0_checkIndex_df160 := dc_CO_cons H_J3_checkIndex_8e157_ok (dc_CO_nil)
def S_J0_checkIndex_df160 : List (Nat × List Nat) := []
def d_J0_checkIndex_df160 (x0 : Int32) (x1 : Int32) (m : dc_M) : Unit :=
  ()
set_option maxHeartbeats 8000000 in
theorem k_J0_checkIndex_df160 {u : Nat} {N : Nat} {Φ : Unit → Option Value → dc_M → Prop} (x0 : Int32) (x1 : Int32) (m : dc_M) (kR : Φ (()) (none) m)  {lv : ab_L} (f0 : ab_lk lv 0 = some (.int x0)) (f1 : ab_lk lv 1 = some (.int x1)) : dc_pv u N ab_M_J0_checkIndex_df160 0 lv [] m (Φ (d_J0_checkIndex_df160 x0 x1 m)) := by
  refine dc_pv.mono (dc_ok (C := C_J0_checkIndex_df160) (S := S_J0_checkIndex_df160) CO_J0_checkIndex_df160 400 0 [(0, .int x0), (1, .int x1)] lv [] m (dc_sub_cons f0 (dc_sub_cons f1 (dc_sub_nil))) ?_) (Nat.le_succ N)
  unfold d_J0_checkIndex_df160
  refine dg_s (pc' := 1) [.int x0] rfl (fun _ => rfl) rfl ?_
  refine dg_s (pc' := 2) [.int x1, .int x0] rfl (fun _ => rfl) rfl ?_
  refine dg_s (pc' := 5) [.retAddr 9, .int x1, .int x0] rfl (fun _ => rfl) rfl ?_
  refine dg_s (pc' := 8) [.int (d_J3_checkIndex_8e157 x0 x1 9 m)] rfl (fun _ => rfl) rfl ?_
  refine dg_s (pc' := 9) [] rfl (fun _ => rfl) rfl ?_
  exact dw_r (some (.inl (none, m))) rfl (fun _ => rfl) (kR)
def H_J0_checkIndex_df160 : dc_H := fun As m k => match As with
  | [.int x0, .int x1] => k (none) m
  | _ => dc_kz
theorem H_J0_checkIndex_df160_ok {u : Nat} : dc_cok u 236 H_J0_checkIndex_df160 := fun M' hG N As m k P hz hP => by
  obtain rfl : ab_M_J0_checkIndex_df160 = M' := Option.some.inj hG
  unfold H_J0_checkIndex_df160 at hP
  split at hP
  · rename_i x0 x1
    exact dc_pv.imp (k_J0_checkIndex_df160 (Φ := fun (t : Unit) r m' => P (k (none) m) → P (k r m')) x0 x1 m (fun  h => h) rfl rfl) (fun r m' h => h hP)
  · exact absurd hP hz
def C_J1_charAt_3b067 : List (Nat × dc_H) := [(236, H_J0_checkIndex_df160)]
theorem CO_J1_charAt_3b067 {u : Nat} : dc_CO u C_J1_charAt_3b067 := dc_CO_cons H_J0_checkIndex_df160_ok (dc_CO_nil)
def S_J1_charAt_3b067 : List (Nat × List Nat) := []
def d_J1_charAt_3b067 (x0 : Nat) (x1 : Int32) (m : dc_M) : Int32 :=
  ((((((ab_xt (x0 - 11)).getD (Int32.toNatClampNeg x1) 0) &&& (255 : Int32))).toUInt32 % 65536).toInt32)
set_option maxHeartbeats 8000000 in
theorem k_J1_charAt_3b067 {u : Nat} {N : Nat} {Φ : Int32 → Option Value → dc_M → Prop} (x0 : Nat) (x1 : Int32) (m : dc_M) (kR : ∀ (v : Int32), Φ (v) (some (.int v)) m)  {lv : ab_L} (f0 : ab_lk lv 0 = some (.retAddr x0)) (f1 : ab_lk lv 1 = some (.int x1)) : dc_pv u N ab_M_J1_charAt_3b067 0 lv [] m (Φ (d_J1_charAt_3b067 x0 x1 m)) := by
  refine dc_pv.mono (dc_ok (C := C_J1_charAt_3b067) (S := S_J1_charAt_3b067) CO_J1_charAt_3b067 400 0 [(0, .retAddr x0), (1, .int x1)] lv [] m (dc_sub_cons f0 (dc_sub_cons f1 (dc_sub_nil))) ?_) (Nat.le_succ N)
  unfold d_J1_charAt_3b067
  refine dg_s (pc' := 1) [.int x1] rfl (fun _ => rfl) rfl ?_
  refine dg_s (pc' := 2) [.retAddr x0, .int x1] rfl (fun _ => rfl) rfl ?_
  refine dg_s (pc' := 3) [.int (Int32.ofNat (ab_xt (x0 - 11)).length), .int x1] rfl (fun _ => rfl) rfl ?_
  refine dg_s (pc' := 6) [] rfl (fun _ => rfl) rfl ?_
  refine dg_s (pc' := 7) [.retAddr x0] rfl (fun _ => rfl) rfl ?_
  refine dg_s (pc' := 8) [.int x1, .retAddr x0] rfl (fun _ => rfl) rfl ?_
  refine dg_s (pc' := 9) [.int ((ab_xt (x0 - 11)).getD (Int32.toNatClampNeg x1) 0)] rfl (fun _ => rfl) rfl ?_
  refine dg_s (pc' := 12) [.int (255 : Int32), .int ((ab_xt (x0 - 11)).getD (Int32.toNatClampNeg x1) 0)] rfl (fun _ => rfl) rfl ?_
  refine dg_s (pc' := 13) [.int (((ab_xt (x0 - 11)).getD (Int32.toNatClampNeg x1) 0) &&& (255 : Int32))] rfl (fun _ => rfl) rfl ?_
  refine dg_s (pc' := 14) [.int ((((((ab_xt (x0 - 11)).getD (Int32.toNatClampNeg x1) 0) &&& (255 : Int32))).toUInt32 % 65536).toInt32)] rfl (fun _ => rfl) rfl ?_
  exact dw_r (some (.inl (some (.int ((((((ab_xt (x0 - 11)).getD (Int32.toNatClampNeg x1) 0) &&& (255 : Int32))).toUInt32 % 65536).toInt32)), m))) rfl (fun _ => rfl) (kR _)
def H_J1_charAt_3b067 : dc_H := fun As m k => match As with
  | [.retAddr x0, .int x1] => k (some (.int (d_J1_charAt_3b067 x0 x1 m))) m
  | _ => dc_kz
theorem H_J1_charAt_3b067_ok {u : Nat} : dc_cok u 237 H_J1_charAt_3b067 := fun M' hG N As m k P hz hP => by
  obtain rfl : ab_M_J1_charAt_3b067 = M' := Option.some.inj hG
  unfold H_J1_charAt_3b067 at hP
  split at hP
  · rename_i x0 x1
    exact dc_pv.imp (k_J1_charAt_3b067 (Φ := fun (t : Int32) r m' => P (k (some (.int t)) m) → P (k r m')) x0 x1 m (fun _  h => h) rfl rfl) (fun r m' h => h hP)
  · exact absurd hP hz
def C_J0_charAt_5068e : List (Nat × dc_H) := [(235, H_J0_isLatin1_aae02), (237, H_J1_charAt_3b067)]
theorem CO_J0_charAt_5068e {u : Nat} : dc_CO u C_J0_charAt_5068e := dc_CO_cons H_J0_isLatin1_aae02_ok (dc_CO_cons H_J1_charAt_3b067_ok (dc_CO_nil))
def S_J0_charAt_5068e : List (Nat × List Nat) := []
def d_J0_charAt_5068e (x0 : Nat) (x1 : Int32) (m : dc_M) : Int32 :=
  (d_J1_charAt_3b067 (x0 + 10) x1 m)
set_option maxHeartbeats 8000000 in
theorem k_J0_charAt_5068e {u : Nat} {N : Nat} {Φ : Int32 → Option Value → dc_M → Prop} (x0 : Nat) (x1 : Int32) (m : dc_M) (kR : ∀ (v : Int32), Φ (v) (some (.int v)) m)  {lv : ab_L} (f0 : ab_lk lv 0 = some (.retAddr x0)) (f1 : ab_lk lv 1 = some (.int x1)) : dc_pv u N ab_M_J0_charAt_5068e 0 lv [] m (Φ (d_J0_charAt_5068e x0 x1 m)) := by
  refine dc_pv.mono (dc_ok (C := C_J0_charAt_5068e) (S := S_J0_charAt_5068e) CO_J0_charAt_5068e 400 0 [(0, .retAddr x0), (1, .int x1)] lv [] m (dc_sub_cons f0 (dc_sub_cons f1 (dc_sub_nil))) ?_) (Nat.le_succ N)
  unfold d_J0_charAt_5068e
  refine dg_s (pc' := 1) [.retAddr x0] rfl (fun _ => rfl) rfl ?_
  refine dg_s (pc' := 4) [.int (d_J0_isLatin1_aae02 x0 m)] rfl (fun _ => rfl) rfl ?_
  refine dw_ifl (fun t => Φ t) ((Int32.toInt (d_J0_isLatin1_aae02 x0 m)) = 0) [] 16 7 rfl (fun _ => rfl) (fun c0 => ?_) (fun c0 => ?_)
  · refine dw_g rfl ?_
    refine dg_s (pc' := 17) [.retAddr x0] rfl (fun _ => rfl) rfl ?_
    refine dg_s (pc' := 20) [.retAddr (x0 + 10)] rfl (fun _ => rfl) rfl ?_
    refine dg_s (pc' := 21) [.int x1, .retAddr (x0 + 10)] rfl (fun _ => rfl) rfl ?_
    exact dw_r none rfl (fun _ => rfl) trivial
  · refine dw_g rfl ?_
    refine dg_s (pc' := 8) [.retAddr x0] rfl (fun _ => rfl) rfl ?_
    refine dg_s (pc' := 11) [.retAddr (x0 + 10)] rfl (fun _ => rfl) rfl ?_
    refine dg_s (pc' := 12) [.int x1, .retAddr (x0 + 10)] rfl (fun _ => rfl) rfl ?_
    refine dg_s (pc' := 15) [.int (d_J1_charAt_3b067 (x0 + 10) x1 m)] rfl (fun _ => rfl) rfl ?_
    exact dw_r (some (.inl (some (.int (d_J1_charAt_3b067 (x0 + 10) x1 m)), m))) rfl (fun _ => rfl) (kR _)
def H_J0_charAt_5068e : dc_H := fun As m k => match As with
  | [.retAddr x0, .int x1] => k (some (.int (d_J0_charAt_5068e x0 x1 m))) m
  | _ => dc_kz
theorem H_J0_charAt_5068e_ok {u : Nat} : dc_cok u 233 H_J0_charAt_5068e := fun M' hG N As m k P hz hP => by
  obtain rfl : ab_M_J0_charAt_5068e = M' := Option.some.inj hG
  unfold H_J0_charAt_5068e at hP
  split at hP
  · rename_i x0 x1
    exact dc_pv.imp (k_J0_charAt_5068e (Φ := fun (t : Int32) r m' => P (k (some (.int t)) m) → P (k r m')) x0 x1 m (fun _  h => h) rfl rfl) (fun r m' h => h hP)
  · exact absurd hP hz
def C_J0_coder_7d493 : List (Nat × dc_H) := []
theorem CO_J0_coder_7d493 {u : Nat} : dc_CO u C_J0_coder_7d493 := dc_CO_nil
def S_J0_coder_7d493 : List (Nat × List Nat) := []
def d_J0_coder_7d493 (x0 : Nat) (m : dc_M) : Int32 :=
  (if 1 = 0 then (1 : Int32) else 0)
set_option maxHeartbeats 8000000 in
theorem k_J0_coder_7d493 {u : Nat} {N : Nat} {Φ : Int32 → Option Value → dc_M → Prop} (x0 : Nat) (m : dc_M) (kR : ∀ (v : Int32), Φ (v) (some (.int v)) m)  {lv : ab_L} (f0 : ab_lk lv 0 = some (.retAddr x0)) : dc_pv u N ab_M_J0_coder_7d493 0 lv [] m (Φ (d_J0_coder_7d493 x0 m)) := by
  refine dc_pv.mono (dc_ok (C := C_J0_coder_7d493) (S := S_J0_coder_7d493) CO_J0_coder_7d493 400 0 [(0, .retAddr x0)] lv [] m (dc_sub_cons f0 (dc_sub_nil)) ?_) (Nat.le_succ N)
  unfold d_J0_coder_7d493
  refine dg_s (pc' := 3) [.int (1 : Int32)] rfl (fun _ => rfl) rfl ?_
  refine dw_if (fun t => Φ t) (1 = 0) [] 13 6 rfl (fun _ => rfl) (fun c0 => ?_) (fun c0 => ?_)
  · refine dw_g rfl ?_
    refine dg_s (pc' := 14) [.int (1 : Int32)] rfl (fun _ => rfl) rfl ?_
    exact dw_r (some (.inl (some (.int (1 : Int32)), m))) rfl (fun _ => rfl) (kR _)
  · refine dw_g rfl ?_
    refine dg_s (pc' := 7) [.retAddr x0] rfl (fun _ => rfl) rfl ?_
    refine dg_s (pc' := 10) [.int 0] rfl (fun _ => rfl) rfl ?_
    refine dg_s (pc' := 14) [.int 0] rfl (fun _ => rfl) rfl ?_
    exact dw_r (some (.inl (some (.int 0), m))) rfl (fun _ => rfl) (kR _)
def H_J0_coder_7d493 : dc_H := fun As m k => match As with
  | [.retAddr x0] => k (some (.int (d_J0_coder_7d493 x0 m))) m
  | _ => dc_kz
theorem H_J0_coder_7d493_ok {u : Nat} : dc_cok u 234 H_J0_coder_7d493 := fun M' hG N As m k P hz hP => by
  obtain rfl : ab_M_J0_coder_7d493 = M' := Option.some.inj hG
  unfold H_J0_coder_7d493 at hP
  split at hP
  · rename_i x0
    exact dc_pv.imp (k_J0_coder_7d493 (Φ := fun (t : Int32) r m' => P (k (some (.int t)) m) → P (k r m')) x0 m (fun _  h => h) rfl) (fun r m' h => h hP)
  · exact absurd hP hz
def C_J0_length_8abf5 : List (Nat × dc_H) := [(234, H_J0_coder_7d493)]
theorem CO_J0_length_8abf5 {u : Nat} : dc_CO u C_J0_length_8abf5 := dc_CO_cons H_J0_coder_7d493_ok (dc_CO_nil)
def S_J0_length_8abf5 : List (Nat × List Nat) := []
def d_J0_length_8abf5 (x0 : Nat) (m : dc_M) : Int32 :=
  ((Int32.ofNat (ab_xt ((x0 + 10) - 11)).length) >>> ((d_J0_coder_7d493 x0 m) &&& 31))
set_option maxHeartbeats 8000000 in
theorem k_J0_length_8abf5 {u : Nat} {N : Nat} {Φ : Int32 → Option Value → dc_M → Prop} (x0 : Nat) (m : dc_M) (kR : ∀ (v : Int32), Φ (v) (some (.int v)) m)  {lv : ab_L} (f0 : ab_lk lv 0 = some (.retAddr x0)) : dc_pv u N ab_M_J0_length_8abf5 0 lv [] m (Φ (d_J0_length_8abf5 x0 m)) := by
  refine dc_pv.mono (dc_ok (C := C_J0_length_8abf5) (S := S_J0_length_8abf5) CO_J0_length_8abf5 400 0 [(0, .retAddr x0)] lv [] m (dc_sub_cons f0 (dc_sub_nil)) ?_) (Nat.le_succ N)
  unfold d_J0_length_8abf5
  refine dg_s (pc' := 1) [.retAddr x0] rfl (fun _ => rfl) rfl ?_
  refine dg_s (pc' := 4) [.retAddr (x0 + 10)] rfl (fun _ => rfl) rfl ?_
  refine dg_s (pc' := 5) [.int (Int32.ofNat (ab_xt ((x0 + 10) - 11)).length)] rfl (fun _ => rfl) rfl ?_
  refine dg_s (pc' := 6) [.retAddr x0, .int (Int32.ofNat (ab_xt ((x0 + 10) - 11)).length)] rfl (fun _ => rfl) rfl ?_
  refine dg_s (pc' := 9) [.int (d_J0_coder_7d493 x0 m), .int (Int32.ofNat (ab_xt ((x0 + 10) - 11)).length)] rfl (fun _ => rfl) rfl ?_
  refine dg_s (pc' := 10) [.int ((Int32.ofNat (ab_xt ((x0 + 10) - 11)).length) >>> ((d_J0_coder_7d493 x0 m) &&& 31))] rfl (fun _ => rfl) rfl ?_
  exact dw_r (some (.inl (some (.int ((Int32.ofNat (ab_xt ((x0 + 10) - 11)).length) >>> ((d_J0_coder_7d493 x0 m) &&& 31))), m))) rfl (fun _ => rfl) (kR _)
def H_J0_length_8abf5 : dc_H := fun As m k => match As with
  | [.retAddr x0] => k (some (.int (d_J0_length_8abf5 x0 m))) m
  | _ => dc_kz
theorem H_J0_length_8abf5_ok {u : Nat} : dc_cok u 232 H_J0_length_8abf5 := fun M' hG N As m k P hz hP => by
  obtain rfl : ab_M_J0_length_8abf5 = M' := Option.some.inj hG
  unfold H_J0_length_8abf5 at hP
  split at hP
  · rename_i x0
    exact dc_pv.imp (k_J0_length_8abf5 (Φ := fun (t : Int32) r m' => P (k (some (.int t)) m) → P (k r m')) x0 m (fun _  h => h) rfl) (fun r m' h => h hP)
  · exact absurd hP hz
def C_X4_isWord : List (Nat × dc_H) := [(233, H_J0_charAt_5068e), (232, H_J0_length_8abf5)]
theorem CO_X4_isWord {u : Nat} : dc_CO u C_X4_isWord := dc_CO_cons H_J0_charAt_5068e_ok (dc_CO_cons H_J0_length_8abf5_ok (dc_CO_nil))
def S_X4_isWord : List (Nat × List Nat) := [(28, [0, 1, 2])]
noncomputable def d_X4_isWord_l28b (x0 : Nat) (x1 : Nat) (x2 : Int32) (m : dc_M) : Option (Int32 ⊕ Int32) :=
  (if (Int32.toInt (d_J0_length_8abf5 x1 m)) ≤ (Int32.toInt x2) then some (Sum.inr ((1 : Int32))) else (if 240 ≤ (Int32.toInt ((m.1 x0 6) + x2)) then some (Sum.inr ((1 : Int32))) else (if (Int32.toInt (m.1 (x0 + 1) (Int32.toNatClampNeg ((m.1 x0 6) + x2)))) = (Int32.toInt (d_J0_charAt_5068e x1 x2 m)) then some (Sum.inl (x2 + (1 : Int32))) else some (Sum.inr ((0 : Int32))))))
noncomputable def d_X4_isWord_l28s (x0 : Nat) (x1 : Nat) (m : dc_M) : Int32 → Option (Int32 ⊕ Int32) := fun s => d_X4_isWord_l28b x0 x1 s m
noncomputable def d_X4_isWord_l28 (x0 : Nat) (x1 : Nat) (x2 : Int32) (m : dc_M) : Option Int32 := dc_lp (d_X4_isWord_l28s x0 x1 m) x2
set_option maxHeartbeats 8000000 in
theorem k_X4_isWord_l28 {u : Nat} {Φ : (Option Int32) → Option Value → dc_M → Prop} (x0 : Nat) (x1 : Nat) (m : dc_M) (kR : ∀ (v : Int32), Φ (some (v)) (some (.int v)) m) : ∀ (N : Nat), ∀ (x2 : Int32) (lv : ab_L), ab_lk lv 0 = some (.ref x0) → ab_lk lv 1 = some (.retAddr x1) → ab_lk lv 2 = some (.int x2) → dc_pv u N ab_M_X4_isWord 28 lv [] m (Φ (d_X4_isWord_l28 x0 x1 x2 m)) := by
  intro N
  induction N with
  | zero => intros; exact dc_pv_zero
  | succ N ih =>
    intro x2 lv f0 f1 f2
    refine dc_ok (C := C_X4_isWord) (S := S_X4_isWord) CO_X4_isWord 400 28 [(0, .ref x0), (1, .retAddr x1), (2, .int x2)] lv [] m (dc_sub_cons f0 (dc_sub_cons f1 (dc_sub_cons f2 (dc_sub_nil)))) ?_
    unfold d_X4_isWord_l28
    rw [dc_lp_eq]
    show (fun t x => dc_lf u N ab_M_X4_isWord (Φ (Option.bind t (dc_bk (d_X4_isWord_l28s x0 x1 m)))) x) (d_X4_isWord_l28b x0 x1 x2 m) _
    dsimp only
    unfold d_X4_isWord_l28b
    refine dg_s (pc' := 29) [.int x2] rfl (fun _ => rfl) rfl ?_
    refine dg_s (pc' := 30) [.retAddr x1, .int x2] rfl (fun _ => rfl) rfl ?_
    refine dg_s (pc' := 33) [.int (d_J0_length_8abf5 x1 m), .int x2] rfl (fun _ => rfl) rfl ?_
    refine dw_if (fun t => Φ (Option.bind t (dc_bk (d_X4_isWord_l28s x0 x1 m)))) ((Int32.toInt (d_J0_length_8abf5 x1 m)) ≤ (Int32.toInt x2)) [] 75 36 rfl (fun _ => rfl) (fun c0 => ?_) (fun c0 => ?_)
    · refine dw_g rfl ?_
      refine dg_s (pc' := 76) [.int (1 : Int32)] rfl (fun _ => rfl) rfl ?_
      exact dw_r (some (.inl (some (.int (1 : Int32)), m))) rfl (fun _ => rfl) (kR _)
    · refine dw_g rfl ?_
      refine dg_s (pc' := 37) [.ref x0] rfl (fun _ => rfl) rfl ?_
      refine dg_s (pc' := 40) [.int (m.1 x0 6)] rfl (fun _ => rfl) rfl ?_
      refine dg_s (pc' := 41) [.int x2, .int (m.1 x0 6)] rfl (fun _ => rfl) rfl ?_
      refine dg_s (pc' := 42) [.int ((m.1 x0 6) + x2)] rfl (fun _ => rfl) rfl ?_
      refine dg_s (pc' := 45) [.int (240 : Int32), .int ((m.1 x0 6) + x2)] rfl (fun _ => rfl) rfl ?_
      refine dw_if (fun t => Φ (Option.bind t (dc_bk (d_X4_isWord_l28s x0 x1 m)))) (240 ≤ (Int32.toInt ((m.1 x0 6) + x2))) [] 75 48 rfl (fun _ => rfl) (fun c1 => ?_) (fun c1 => ?_)
      · refine dw_g rfl ?_
        refine dg_s (pc' := 76) [.int (1 : Int32)] rfl (fun _ => rfl) rfl ?_
        exact dw_r (some (.inl (some (.int (1 : Int32)), m))) rfl (fun _ => rfl) (kR _)
      · refine dw_g rfl ?_
        refine dg_s (pc' := 49) [.ref x0] rfl (fun _ => rfl) rfl ?_
        refine dg_s (pc' := 52) [.ref (x0 + 1)] rfl (fun _ => rfl) rfl ?_
        refine dg_s (pc' := 53) [.ref x0, .ref (x0 + 1)] rfl (fun _ => rfl) rfl ?_
        refine dg_s (pc' := 56) [.int (m.1 x0 6), .ref (x0 + 1)] rfl (fun _ => rfl) rfl ?_
        refine dg_s (pc' := 57) [.int x2, .int (m.1 x0 6), .ref (x0 + 1)] rfl (fun _ => rfl) rfl ?_
        refine dg_s (pc' := 58) [.int ((m.1 x0 6) + x2), .ref (x0 + 1)] rfl (fun _ => rfl) rfl ?_
        refine dg_s (pc' := 59) [.int (m.1 (x0 + 1) (Int32.toNatClampNeg ((m.1 x0 6) + x2)))] rfl (fun _ => rfl) rfl ?_
        refine dg_s (pc' := 60) [.retAddr x1, .int (m.1 (x0 + 1) (Int32.toNatClampNeg ((m.1 x0 6) + x2)))] rfl (fun _ => rfl) rfl ?_
        refine dg_s (pc' := 61) [.int x2, .retAddr x1, .int (m.1 (x0 + 1) (Int32.toNatClampNeg ((m.1 x0 6) + x2)))] rfl (fun _ => rfl) rfl ?_
        refine dg_s (pc' := 64) [.int (d_J0_charAt_5068e x1 x2 m), .int (m.1 (x0 + 1) (Int32.toNatClampNeg ((m.1 x0 6) + x2)))] rfl (fun _ => rfl) rfl ?_
        refine dw_if (fun t => Φ (Option.bind t (dc_bk (d_X4_isWord_l28s x0 x1 m)))) ((Int32.toInt (m.1 (x0 + 1) (Int32.toNatClampNeg ((m.1 x0 6) + x2)))) = (Int32.toInt (d_J0_charAt_5068e x1 x2 m))) [] 69 67 rfl (fun _ => rfl) (fun c2 => ?_) (fun c2 => ?_)
        · refine dw_g rfl ?_
          refine dg_L (pc' := 72) [(2, .int (x2 + (1 : Int32))), (0, .ref x0), (1, .retAddr x1)] [] rfl (fun _ => rfl) rfl ?_
          refine dw_s (pc' := 28) [] rfl (fun _ => rfl) ?_
          exact dw_j rfl (fun lv1 hv => ih (x2 + (1 : Int32)) lv1 (hv.1 _ rfl) (hv.2.1 _ rfl) (hv.2.2.1 _ rfl))
        · refine dw_g rfl ?_
          refine dg_s (pc' := 68) [.int (0 : Int32)] rfl (fun _ => rfl) rfl ?_
          exact dw_r (some (.inl (some (.int (0 : Int32)), m))) rfl (fun _ => rfl) (kR _)
noncomputable def d_X4_isWord (x0 : Nat) (x1 : Nat) (m : dc_M) : Option Int32 :=
  (if ¬ (Int32.toInt (m.1 x0 5)) = 1 then some ((0 : Int32)) else (if (Int32.toInt ((m.1 x0 4) - (m.1 x0 6))) = (Int32.toInt (d_J0_length_8abf5 x1 m)) then (d_X4_isWord_l28 x0 x1 (0 : Int32) m) else some ((0 : Int32))))
set_option maxHeartbeats 8000000 in
theorem k_X4_isWord {u : Nat} {N : Nat} {Φ : (Option Int32) → Option Value → dc_M → Prop} (x0 : Nat) (x1 : Nat) (m : dc_M) (kR : ∀ (v : Int32), Φ (some (v)) (some (.int v)) m)  {lv : ab_L} (f0 : ab_lk lv 0 = some (.ref x0)) (f1 : ab_lk lv 1 = some (.retAddr x1)) : dc_pv u N ab_M_X4_isWord 0 lv [] m (Φ (d_X4_isWord x0 x1 m)) := by
  refine dc_pv.mono (dc_ok (C := C_X4_isWord) (S := S_X4_isWord) CO_X4_isWord 400 0 [(0, .ref x0), (1, .retAddr x1)] lv [] m (dc_sub_cons f0 (dc_sub_cons f1 (dc_sub_nil))) ?_) (Nat.le_succ N)
  unfold d_X4_isWord
  refine dg_s (pc' := 1) [.ref x0] rfl (fun _ => rfl) rfl ?_
  refine dg_s (pc' := 4) [.int (m.1 x0 5)] rfl (fun _ => rfl) rfl ?_
  refine dg_s (pc' := 5) [.int (1 : Int32), .int (m.1 x0 5)] rfl (fun _ => rfl) rfl ?_
  refine dw_if (fun t => Φ t) (¬ (Int32.toInt (m.1 x0 5)) = 1) [] 24 8 rfl (fun _ => rfl) (fun c0 => ?_) (fun c0 => ?_)
  · refine dw_g rfl ?_
    refine dg_s (pc' := 25) [.int (0 : Int32)] rfl (fun _ => rfl) rfl ?_
    exact dw_r (some (.inl (some (.int (0 : Int32)), m))) rfl (fun _ => rfl) (kR _)
  · refine dw_g rfl ?_
    refine dg_s (pc' := 9) [.ref x0] rfl (fun _ => rfl) rfl ?_
    refine dg_s (pc' := 12) [.int (m.1 x0 4)] rfl (fun _ => rfl) rfl ?_
    refine dg_s (pc' := 13) [.ref x0, .int (m.1 x0 4)] rfl (fun _ => rfl) rfl ?_
    refine dg_s (pc' := 16) [.int (m.1 x0 6), .int (m.1 x0 4)] rfl (fun _ => rfl) rfl ?_
    refine dg_s (pc' := 17) [.int ((m.1 x0 4) - (m.1 x0 6))] rfl (fun _ => rfl) rfl ?_
    refine dg_s (pc' := 18) [.retAddr x1, .int ((m.1 x0 4) - (m.1 x0 6))] rfl (fun _ => rfl) rfl ?_
    refine dg_s (pc' := 21) [.int (d_J0_length_8abf5 x1 m), .int ((m.1 x0 4) - (m.1 x0 6))] rfl (fun _ => rfl) rfl ?_
    refine dw_if (fun t => Φ t) ((Int32.toInt ((m.1 x0 4) - (m.1 x0 6))) = (Int32.toInt (d_J0_length_8abf5 x1 m))) [] 26 24 rfl (fun _ => rfl) (fun c1 => ?_) (fun c1 => ?_)
    · refine dw_g rfl ?_
      refine dg_s (pc' := 27) [.int (0 : Int32)] rfl (fun _ => rfl) rfl ?_
      refine dw_L (pc' := 28) [(2, .int (0 : Int32)), (0, .ref x0), (1, .retAddr x1)] [] rfl (fun _ => rfl) ?_
      exact dw_j rfl (fun lv1 hv => k_X4_isWord_l28 (Φ := (fun t => Φ t)) x0 x1 m (fun _a  => kR _a) N  (0 : Int32) lv1 (hv.1 _ rfl) (hv.2.1 _ rfl) (hv.2.2.1 _ rfl))
    · refine dw_g rfl ?_
      refine dg_s (pc' := 25) [.int (0 : Int32)] rfl (fun _ => rfl) rfl ?_
      exact dw_r (some (.inl (some (.int (0 : Int32)), m))) rfl (fun _ => rfl) (kR _)
noncomputable def H_X4_isWord : dc_H := fun As m k => match As with
  | [.ref x0, .retAddr x1] => (d_X4_isWord x0 x1 m).bind (fun q => k (some (.int q)) m)
  | _ => dc_kz
theorem H_X4_isWord_ok {u : Nat} : dc_cok u 59 H_X4_isWord := fun M' hG N As m k P hz hP => by
  obtain rfl : ab_M_X4_isWord = M' := Option.some.inj hG
  unfold H_X4_isWord at hP
  split at hP
  · rename_i x0 x1
    exact dc_pv.imp (k_X4_isWord (Φ := fun (t : Option Int32) r m' => P (t.bind (fun q => k (some (.int q)) m)) → P (k r m')) x0 x1 m (fun _  h => h) rfl rfl) (fun r m' h => h hP)
  · exact absurd hP hz
def C_X3_addPlace : List (Nat × dc_H) := []
theorem CO_X3_addPlace {u : Nat} : dc_CO u C_X3_addPlace := dc_CO_nil
def S_X3_addPlace : List (Nat × List Nat) := [(56, [0, 1, 2, 4, 5]), (88, [0, 1, 2, 4, 5])]
noncomputable def d_X3_addPlace_b88 (x0 : Nat) (x1 : Int32) (x2 : Int32) (x4 : Int32) (x5 : Int32) (s0 : Int32) (s1 : Int32) (s2 : Int32) (s3 : Nat) (m : dc_M) : Option ((Int32 × dc_M) ⊕ dc_M) :=
  (if (Int32.toInt ((x2 >>> (x5 &&& 31)) &&& (1 : Int32))) = 0 then some (Sum.inl ((x5 + (1 : Int32)), (dc_wi (dc_wi m s3 (Int32.toNatClampNeg s2) (s1 ||| s0)) (x0 + 6) (Int32.toNatClampNeg x5) (((dc_wi m s3 (Int32.toNatClampNeg s2) (s1 ||| s0)).1 (x0 + 6) (Int32.toNatClampNeg x5)) ||| (0 : Int32))))) else some (Sum.inl ((x5 + (1 : Int32)), (dc_wi (dc_wi m s3 (Int32.toNatClampNeg s2) (s1 ||| s0)) (x0 + 6) (Int32.toNatClampNeg x5) (((dc_wi m s3 (Int32.toNatClampNeg s2) (s1 ||| s0)).1 (x0 + 6) (Int32.toNatClampNeg x5)) ||| x4)))))
set_option maxHeartbeats 8000000 in
theorem k_X3_addPlace_b88 {u : Nat} {N : Nat} {Φ : (Option ((Int32 × dc_M) ⊕ dc_M)) → Option Value → dc_M → Prop} (x0 : Nat) (x1 : Int32) (x2 : Int32) (x4 : Int32) (x5 : Int32) (s0 : Int32) (s1 : Int32) (s2 : Int32) (s3 : Nat) (m : dc_M) (kR : ∀  (m : dc_M), Φ (some (Sum.inr (m))) (none) m) (k56 : ∀ (x5 : Int32) (m : dc_M) (lv : ab_L), ab_lk lv 0 = some (.ref x0) → ab_lk lv 1 = some (.int x1) → ab_lk lv 2 = some (.int x2) → ab_lk lv 4 = some (.int x4) → ab_lk lv 5 = some (.int x5) →  dc_pv u N ab_M_X3_addPlace 56 lv [] m (Φ (some (Sum.inl (x5, m))))) {lv : ab_L} (f0 : ab_lk lv 0 = some (.ref x0)) (f1 : ab_lk lv 1 = some (.int x1)) (f2 : ab_lk lv 2 = some (.int x2)) (f4 : ab_lk lv 4 = some (.int x4)) (f5 : ab_lk lv 5 = some (.int x5)) : dc_pv u N ab_M_X3_addPlace 88 lv [.int s0, .int s1, .int s2, .ref s3] m (Φ (d_X3_addPlace_b88 x0 x1 x2 x4 x5 s0 s1 s2 s3 m)) := by
  refine dc_pv.mono (dc_ok (C := C_X3_addPlace) (S := S_X3_addPlace) CO_X3_addPlace 400 88 [(0, .ref x0), (1, .int x1), (2, .int x2), (4, .int x4), (5, .int x5)] lv [.int s0, .int s1, .int s2, .ref s3] m (dc_sub_cons f0 (dc_sub_cons f1 (dc_sub_cons f2 (dc_sub_cons f4 (dc_sub_cons f5 (dc_sub_nil)))))) ?_) (Nat.le_succ N)
  unfold d_X3_addPlace_b88
  refine dg_s (pc' := 89) [.int (s1 ||| s0), .int s2, .ref s3] rfl (fun _ => rfl) rfl ?_
  refine dg_m (pc' := 90) (dc_wi m s3 (Int32.toNatClampNeg s2) (s1 ||| s0)) [] rfl (fun _ => rfl) rfl ?_
  refine dg_s (pc' := 91) [.ref x0] rfl (fun _ => rfl) rfl ?_
  refine dg_s (pc' := 94) [.ref (x0 + 6)] rfl (fun _ => rfl) rfl ?_
  refine dg_s (pc' := 96) [.int x5, .ref (x0 + 6)] rfl (fun _ => rfl) rfl ?_
  refine dg_s (pc' := 97) [.int x5, .ref (x0 + 6), .int x5, .ref (x0 + 6)] rfl (fun _ => rfl) rfl ?_
  refine dg_s (pc' := 98) [.int ((dc_wi m s3 (Int32.toNatClampNeg s2) (s1 ||| s0)).1 (x0 + 6) (Int32.toNatClampNeg x5)), .int x5, .ref (x0 + 6)] rfl (fun _ => rfl) rfl ?_
  refine dg_s (pc' := 99) [.int x2, .int ((dc_wi m s3 (Int32.toNatClampNeg s2) (s1 ||| s0)).1 (x0 + 6) (Int32.toNatClampNeg x5)), .int x5, .ref (x0 + 6)] rfl (fun _ => rfl) rfl ?_
  refine dg_s (pc' := 101) [.int x5, .int x2, .int ((dc_wi m s3 (Int32.toNatClampNeg s2) (s1 ||| s0)).1 (x0 + 6) (Int32.toNatClampNeg x5)), .int x5, .ref (x0 + 6)] rfl (fun _ => rfl) rfl ?_
  refine dg_s (pc' := 102) [.int (x2 >>> (x5 &&& 31)), .int ((dc_wi m s3 (Int32.toNatClampNeg s2) (s1 ||| s0)).1 (x0 + 6) (Int32.toNatClampNeg x5)), .int x5, .ref (x0 + 6)] rfl (fun _ => rfl) rfl ?_
  refine dg_s (pc' := 103) [.int (1 : Int32), .int (x2 >>> (x5 &&& 31)), .int ((dc_wi m s3 (Int32.toNatClampNeg s2) (s1 ||| s0)).1 (x0 + 6) (Int32.toNatClampNeg x5)), .int x5, .ref (x0 + 6)] rfl (fun _ => rfl) rfl ?_
  refine dg_s (pc' := 104) [.int ((x2 >>> (x5 &&& 31)) &&& (1 : Int32)), .int ((dc_wi m s3 (Int32.toNatClampNeg s2) (s1 ||| s0)).1 (x0 + 6) (Int32.toNatClampNeg x5)), .int x5, .ref (x0 + 6)] rfl (fun _ => rfl) rfl ?_
  refine dw_if (fun t => Φ t) ((Int32.toInt ((x2 >>> (x5 &&& 31)) &&& (1 : Int32))) = 0) [.int ((dc_wi m s3 (Int32.toNatClampNeg s2) (s1 ||| s0)).1 (x0 + 6) (Int32.toNatClampNeg x5)), .int x5, .ref (x0 + 6)] 112 107 rfl (fun _ => rfl) (fun c0 => ?_) (fun c0 => ?_)
  · refine dw_g rfl ?_
    refine dg_s (pc' := 113) [.int (0 : Int32), .int ((dc_wi m s3 (Int32.toNatClampNeg s2) (s1 ||| s0)).1 (x0 + 6) (Int32.toNatClampNeg x5)), .int x5, .ref (x0 + 6)] rfl (fun _ => rfl) rfl ?_
    refine dg_s (pc' := 114) [.int (((dc_wi m s3 (Int32.toNatClampNeg s2) (s1 ||| s0)).1 (x0 + 6) (Int32.toNatClampNeg x5)) ||| (0 : Int32)), .int x5, .ref (x0 + 6)] rfl (fun _ => rfl) rfl ?_
    refine dg_m (pc' := 115) (dc_wi (dc_wi m s3 (Int32.toNatClampNeg s2) (s1 ||| s0)) (x0 + 6) (Int32.toNatClampNeg x5) (((dc_wi m s3 (Int32.toNatClampNeg s2) (s1 ||| s0)).1 (x0 + 6) (Int32.toNatClampNeg x5)) ||| (0 : Int32))) [] rfl (fun _ => rfl) rfl ?_
    refine dg_L (pc' := 118) [(5, .int (x5 + (1 : Int32))), (0, .ref x0), (1, .int x1), (2, .int x2), (4, .int x4)] [] rfl (fun _ => rfl) rfl ?_
    refine dw_s (pc' := 56) [] rfl (fun _ => rfl) ?_
    exact dw_j rfl (fun lv1 hv => k56 (x5 + (1 : Int32)) (dc_wi (dc_wi m s3 (Int32.toNatClampNeg s2) (s1 ||| s0)) (x0 + 6) (Int32.toNatClampNeg x5) (((dc_wi m s3 (Int32.toNatClampNeg s2) (s1 ||| s0)).1 (x0 + 6) (Int32.toNatClampNeg x5)) ||| (0 : Int32))) lv1 (hv.1 _ rfl) (hv.2.1 _ rfl) (hv.2.2.1 _ rfl) (hv.2.2.2.1 _ rfl) (hv.2.2.2.2.1 _ rfl))
  · refine dw_g rfl ?_
    refine dg_s (pc' := 109) [.int x4, .int ((dc_wi m s3 (Int32.toNatClampNeg s2) (s1 ||| s0)).1 (x0 + 6) (Int32.toNatClampNeg x5)), .int x5, .ref (x0 + 6)] rfl (fun _ => rfl) rfl ?_
    refine dg_s (pc' := 113) [.int x4, .int ((dc_wi m s3 (Int32.toNatClampNeg s2) (s1 ||| s0)).1 (x0 + 6) (Int32.toNatClampNeg x5)), .int x5, .ref (x0 + 6)] rfl (fun _ => rfl) rfl ?_
    refine dg_s (pc' := 114) [.int (((dc_wi m s3 (Int32.toNatClampNeg s2) (s1 ||| s0)).1 (x0 + 6) (Int32.toNatClampNeg x5)) ||| x4), .int x5, .ref (x0 + 6)] rfl (fun _ => rfl) rfl ?_
    refine dg_m (pc' := 115) (dc_wi (dc_wi m s3 (Int32.toNatClampNeg s2) (s1 ||| s0)) (x0 + 6) (Int32.toNatClampNeg x5) (((dc_wi m s3 (Int32.toNatClampNeg s2) (s1 ||| s0)).1 (x0 + 6) (Int32.toNatClampNeg x5)) ||| x4)) [] rfl (fun _ => rfl) rfl ?_
    refine dg_L (pc' := 118) [(5, .int (x5 + (1 : Int32))), (0, .ref x0), (1, .int x1), (2, .int x2), (4, .int x4)] [] rfl (fun _ => rfl) rfl ?_
    refine dw_s (pc' := 56) [] rfl (fun _ => rfl) ?_
    exact dw_j rfl (fun lv1 hv => k56 (x5 + (1 : Int32)) (dc_wi (dc_wi m s3 (Int32.toNatClampNeg s2) (s1 ||| s0)) (x0 + 6) (Int32.toNatClampNeg x5) (((dc_wi m s3 (Int32.toNatClampNeg s2) (s1 ||| s0)).1 (x0 + 6) (Int32.toNatClampNeg x5)) ||| x4)) lv1 (hv.1 _ rfl) (hv.2.1 _ rfl) (hv.2.2.1 _ rfl) (hv.2.2.2.1 _ rfl) (hv.2.2.2.2.1 _ rfl))
noncomputable def d_X3_addPlace_l56b (x0 : Nat) (x1 : Int32) (x2 : Int32) (x4 : Int32) (x5 : Int32) (m : dc_M) : Option ((Int32 × dc_M) ⊕ dc_M) :=
  (if (Int32.toInt (m.1 x0 1)) ≤ (Int32.toInt x5) then some (Sum.inr ((dc_wi m x0 2 ((m.1 x0 2) + (1 : Int32))))) else (if (Int32.toInt ((x1 >>> (x5 &&& 31)) &&& (1 : Int32))) = 0 then (d_X3_addPlace_b88 x0 x1 x2 x4 x5 (0 : Int32) (m.1 (x0 + 7) (Int32.toNatClampNeg x5)) x5 (x0 + 7) m) else (d_X3_addPlace_b88 x0 x1 x2 x4 x5 x4 (m.1 (x0 + 7) (Int32.toNatClampNeg x5)) x5 (x0 + 7) m)))
noncomputable def d_X3_addPlace_l56s (x0 : Nat) (x1 : Int32) (x2 : Int32) (x4 : Int32) : (Int32 × dc_M) → Option ((Int32 × dc_M) ⊕ dc_M) := fun s => d_X3_addPlace_l56b x0 x1 x2 x4 s.1 s.2
noncomputable def d_X3_addPlace_l56 (x0 : Nat) (x1 : Int32) (x2 : Int32) (x4 : Int32) (x5 : Int32) (m : dc_M) : Option dc_M := dc_lp (d_X3_addPlace_l56s x0 x1 x2 x4) (x5, m)
set_option maxHeartbeats 8000000 in
theorem k_X3_addPlace_l56 {u : Nat} {Φ : (Option dc_M) → Option Value → dc_M → Prop} (x0 : Nat) (x1 : Int32) (x2 : Int32) (x4 : Int32) (kR : ∀  (m : dc_M), Φ (some (m)) (none) m) : ∀ (N : Nat), ∀ (x5 : Int32) (m : dc_M) (lv : ab_L), ab_lk lv 0 = some (.ref x0) → ab_lk lv 1 = some (.int x1) → ab_lk lv 2 = some (.int x2) → ab_lk lv 4 = some (.int x4) → ab_lk lv 5 = some (.int x5) → dc_pv u N ab_M_X3_addPlace 56 lv [] m (Φ (d_X3_addPlace_l56 x0 x1 x2 x4 x5 m)) := by
  intro N
  induction N with
  | zero => intros; exact dc_pv_zero
  | succ N ih =>
    intro x5 m lv f0 f1 f2 f4 f5
    refine dc_ok (C := C_X3_addPlace) (S := S_X3_addPlace) CO_X3_addPlace 400 56 [(0, .ref x0), (1, .int x1), (2, .int x2), (4, .int x4), (5, .int x5)] lv [] m (dc_sub_cons f0 (dc_sub_cons f1 (dc_sub_cons f2 (dc_sub_cons f4 (dc_sub_cons f5 (dc_sub_nil)))))) ?_
    unfold d_X3_addPlace_l56
    rw [dc_lp_eq]
    show (fun t x => dc_lf u N ab_M_X3_addPlace (Φ (Option.bind t (dc_bk (d_X3_addPlace_l56s x0 x1 x2 x4)))) x) (d_X3_addPlace_l56b x0 x1 x2 x4 x5 m) _
    dsimp only
    unfold d_X3_addPlace_l56b
    refine dg_s (pc' := 58) [.int x5] rfl (fun _ => rfl) rfl ?_
    refine dg_s (pc' := 59) [.ref x0, .int x5] rfl (fun _ => rfl) rfl ?_
    refine dg_s (pc' := 62) [.int (m.1 x0 1), .int x5] rfl (fun _ => rfl) rfl ?_
    refine dw_if (fun t => Φ (Option.bind t (dc_bk (d_X3_addPlace_l56s x0 x1 x2 x4)))) ((Int32.toInt (m.1 x0 1)) ≤ (Int32.toInt x5)) [] 121 65 rfl (fun _ => rfl) (fun c0 => ?_) (fun c0 => ?_)
    · refine dw_g rfl ?_
      refine dg_s (pc' := 122) [.ref x0] rfl (fun _ => rfl) rfl ?_
      refine dg_s (pc' := 123) [.ref x0, .ref x0] rfl (fun _ => rfl) rfl ?_
      refine dg_s (pc' := 126) [.int (m.1 x0 2), .ref x0] rfl (fun _ => rfl) rfl ?_
      refine dg_s (pc' := 127) [.int (1 : Int32), .int (m.1 x0 2), .ref x0] rfl (fun _ => rfl) rfl ?_
      refine dg_s (pc' := 128) [.int ((m.1 x0 2) + (1 : Int32)), .ref x0] rfl (fun _ => rfl) rfl ?_
      refine dg_m (pc' := 131) (dc_wi m x0 2 ((m.1 x0 2) + (1 : Int32))) [] rfl (fun _ => rfl) rfl ?_
      exact dw_r (some (.inl (none, (dc_wi m x0 2 ((m.1 x0 2) + (1 : Int32)))))) rfl (fun _ => rfl) (kR _)
    · refine dw_g rfl ?_
      refine dg_s (pc' := 66) [.ref x0] rfl (fun _ => rfl) rfl ?_
      refine dg_s (pc' := 69) [.ref (x0 + 7)] rfl (fun _ => rfl) rfl ?_
      refine dg_s (pc' := 71) [.int x5, .ref (x0 + 7)] rfl (fun _ => rfl) rfl ?_
      refine dg_s (pc' := 72) [.int x5, .ref (x0 + 7), .int x5, .ref (x0 + 7)] rfl (fun _ => rfl) rfl ?_
      refine dg_s (pc' := 73) [.int (m.1 (x0 + 7) (Int32.toNatClampNeg x5)), .int x5, .ref (x0 + 7)] rfl (fun _ => rfl) rfl ?_
      refine dg_s (pc' := 74) [.int x1, .int (m.1 (x0 + 7) (Int32.toNatClampNeg x5)), .int x5, .ref (x0 + 7)] rfl (fun _ => rfl) rfl ?_
      refine dg_s (pc' := 76) [.int x5, .int x1, .int (m.1 (x0 + 7) (Int32.toNatClampNeg x5)), .int x5, .ref (x0 + 7)] rfl (fun _ => rfl) rfl ?_
      refine dg_s (pc' := 77) [.int (x1 >>> (x5 &&& 31)), .int (m.1 (x0 + 7) (Int32.toNatClampNeg x5)), .int x5, .ref (x0 + 7)] rfl (fun _ => rfl) rfl ?_
      refine dg_s (pc' := 78) [.int (1 : Int32), .int (x1 >>> (x5 &&& 31)), .int (m.1 (x0 + 7) (Int32.toNatClampNeg x5)), .int x5, .ref (x0 + 7)] rfl (fun _ => rfl) rfl ?_
      refine dg_s (pc' := 79) [.int ((x1 >>> (x5 &&& 31)) &&& (1 : Int32)), .int (m.1 (x0 + 7) (Int32.toNatClampNeg x5)), .int x5, .ref (x0 + 7)] rfl (fun _ => rfl) rfl ?_
      refine dw_if (fun t => Φ (Option.bind t (dc_bk (d_X3_addPlace_l56s x0 x1 x2 x4)))) ((Int32.toInt ((x1 >>> (x5 &&& 31)) &&& (1 : Int32))) = 0) [.int (m.1 (x0 + 7) (Int32.toNatClampNeg x5)), .int x5, .ref (x0 + 7)] 87 82 rfl (fun _ => rfl) (fun c1 => ?_) (fun c1 => ?_)
      · refine dw_g rfl ?_
        refine dw_s (pc' := 88) [.int (0 : Int32), .int (m.1 (x0 + 7) (Int32.toNatClampNeg x5)), .int x5, .ref (x0 + 7)] rfl (fun _ => rfl) ?_
        exact dw_j rfl (fun lv1 hv => k_X3_addPlace_b88 (Φ := (fun t => Φ (Option.bind t (dc_bk (d_X3_addPlace_l56s x0 x1 x2 x4))))) x0 x1 x2 x4 x5 (0 : Int32) (m.1 (x0 + 7) (Int32.toNatClampNeg x5)) x5 (x0 + 7) m (fun _b => kR _b) ih (hv.1 _ rfl) (hv.2.1 _ rfl) (hv.2.2.1 _ rfl) (hv.2.2.2.1 _ rfl) (hv.2.2.2.2.1 _ rfl))
      · refine dw_g rfl ?_
        refine dg_s (pc' := 84) [.int x4, .int (m.1 (x0 + 7) (Int32.toNatClampNeg x5)), .int x5, .ref (x0 + 7)] rfl (fun _ => rfl) rfl ?_
        refine dw_s (pc' := 88) [.int x4, .int (m.1 (x0 + 7) (Int32.toNatClampNeg x5)), .int x5, .ref (x0 + 7)] rfl (fun _ => rfl) ?_
        exact dw_j rfl (fun lv1 hv => k_X3_addPlace_b88 (Φ := (fun t => Φ (Option.bind t (dc_bk (d_X3_addPlace_l56s x0 x1 x2 x4))))) x0 x1 x2 x4 x5 x4 (m.1 (x0 + 7) (Int32.toNatClampNeg x5)) x5 (x0 + 7) m (fun _b => kR _b) ih (hv.1 _ rfl) (hv.2.1 _ rfl) (hv.2.2.1 _ rfl) (hv.2.2.2.1 _ rfl) (hv.2.2.2.2.1 _ rfl))
noncomputable def d_X3_addPlace (x0 : Nat) (x1 : Int32) (x2 : Int32) (x3 : Int32) (m : dc_M) : Option dc_M :=
  (if (Int32.toInt (m.1 x0 2)) < 20 then (d_X3_addPlace_l56 x0 x1 x2 ((1 : Int32) <<< ((m.1 x0 2) &&& 31)) (0 : Int32) (dc_wi (dc_wi (dc_wi m (x0 + 9) (Int32.toNatClampNeg (m.1 x0 2)) x1) (x0 + 10) (Int32.toNatClampNeg ((dc_wi m (x0 + 9) (Int32.toNatClampNeg (m.1 x0 2)) x1).1 x0 2)) x2) x0 13 (((dc_wi (dc_wi m (x0 + 9) (Int32.toNatClampNeg (m.1 x0 2)) x1) (x0 + 10) (Int32.toNatClampNeg ((dc_wi m (x0 + 9) (Int32.toNatClampNeg (m.1 x0 2)) x1).1 x0 2)) x2).1 x0 13) ||| (x3 <<< (((dc_wi (dc_wi m (x0 + 9) (Int32.toNatClampNeg (m.1 x0 2)) x1) (x0 + 10) (Int32.toNatClampNeg ((dc_wi m (x0 + 9) (Int32.toNatClampNeg (m.1 x0 2)) x1).1 x0 2)) x2).1 x0 2) &&& 31))))) else some (m))
set_option maxHeartbeats 8000000 in
theorem k_X3_addPlace {u : Nat} {N : Nat} {Φ : (Option dc_M) → Option Value → dc_M → Prop} (x0 : Nat) (x1 : Int32) (x2 : Int32) (x3 : Int32) (m : dc_M) (kR : ∀  (m : dc_M), Φ (some (m)) (none) m)  {lv : ab_L} (f0 : ab_lk lv 0 = some (.ref x0)) (f1 : ab_lk lv 1 = some (.int x1)) (f2 : ab_lk lv 2 = some (.int x2)) (f3 : ab_lk lv 3 = some (.int x3)) : dc_pv u N ab_M_X3_addPlace 0 lv [] m (Φ (d_X3_addPlace x0 x1 x2 x3 m)) := by
  refine dc_pv.mono (dc_ok (C := C_X3_addPlace) (S := S_X3_addPlace) CO_X3_addPlace 400 0 [(0, .ref x0), (1, .int x1), (2, .int x2), (3, .int x3)] lv [] m (dc_sub_cons f0 (dc_sub_cons f1 (dc_sub_cons f2 (dc_sub_cons f3 (dc_sub_nil))))) ?_) (Nat.le_succ N)
  unfold d_X3_addPlace
  refine dg_s (pc' := 1) [.ref x0] rfl (fun _ => rfl) rfl ?_
  refine dg_s (pc' := 4) [.int (m.1 x0 2)] rfl (fun _ => rfl) rfl ?_
  refine dg_s (pc' := 6) [.int (20 : Int32), .int (m.1 x0 2)] rfl (fun _ => rfl) rfl ?_
  refine dw_if (fun t => Φ t) ((Int32.toInt (m.1 x0 2)) < 20) [] 10 9 rfl (fun _ => rfl) (fun c0 => ?_) (fun c0 => ?_)
  · refine dw_g rfl ?_
    refine dg_s (pc' := 11) [.int (1 : Int32)] rfl (fun _ => rfl) rfl ?_
    refine dg_s (pc' := 12) [.ref x0, .int (1 : Int32)] rfl (fun _ => rfl) rfl ?_
    refine dg_s (pc' := 15) [.int (m.1 x0 2), .int (1 : Int32)] rfl (fun _ => rfl) rfl ?_
    refine dg_s (pc' := 16) [.int ((1 : Int32) <<< ((m.1 x0 2) &&& 31))] rfl (fun _ => rfl) rfl ?_
    refine dg_L (pc' := 18) [(4, .int ((1 : Int32) <<< ((m.1 x0 2) &&& 31))), (0, .ref x0), (1, .int x1), (2, .int x2), (3, .int x3)] [] rfl (fun _ => rfl) rfl ?_
    refine dg_s (pc' := 19) [.ref x0] rfl (fun _ => rfl) rfl ?_
    refine dg_s (pc' := 22) [.ref (x0 + 9)] rfl (fun _ => rfl) rfl ?_
    refine dg_s (pc' := 23) [.ref x0, .ref (x0 + 9)] rfl (fun _ => rfl) rfl ?_
    refine dg_s (pc' := 26) [.int (m.1 x0 2), .ref (x0 + 9)] rfl (fun _ => rfl) rfl ?_
    refine dg_s (pc' := 27) [.int x1, .int (m.1 x0 2), .ref (x0 + 9)] rfl (fun _ => rfl) rfl ?_
    refine dg_m (pc' := 28) (dc_wi m (x0 + 9) (Int32.toNatClampNeg (m.1 x0 2)) x1) [] rfl (fun _ => rfl) rfl ?_
    refine dg_s (pc' := 29) [.ref x0] rfl (fun _ => rfl) rfl ?_
    refine dg_s (pc' := 32) [.ref (x0 + 10)] rfl (fun _ => rfl) rfl ?_
    refine dg_s (pc' := 33) [.ref x0, .ref (x0 + 10)] rfl (fun _ => rfl) rfl ?_
    refine dg_s (pc' := 36) [.int ((dc_wi m (x0 + 9) (Int32.toNatClampNeg (m.1 x0 2)) x1).1 x0 2), .ref (x0 + 10)] rfl (fun _ => rfl) rfl ?_
    refine dg_s (pc' := 37) [.int x2, .int ((dc_wi m (x0 + 9) (Int32.toNatClampNeg (m.1 x0 2)) x1).1 x0 2), .ref (x0 + 10)] rfl (fun _ => rfl) rfl ?_
    refine dg_m (pc' := 38) (dc_wi (dc_wi m (x0 + 9) (Int32.toNatClampNeg (m.1 x0 2)) x1) (x0 + 10) (Int32.toNatClampNeg ((dc_wi m (x0 + 9) (Int32.toNatClampNeg (m.1 x0 2)) x1).1 x0 2)) x2) [] rfl (fun _ => rfl) rfl ?_
    refine dg_s (pc' := 39) [.ref x0] rfl (fun _ => rfl) rfl ?_
    refine dg_s (pc' := 40) [.ref x0, .ref x0] rfl (fun _ => rfl) rfl ?_
    refine dg_s (pc' := 43) [.int ((dc_wi (dc_wi m (x0 + 9) (Int32.toNatClampNeg (m.1 x0 2)) x1) (x0 + 10) (Int32.toNatClampNeg ((dc_wi m (x0 + 9) (Int32.toNatClampNeg (m.1 x0 2)) x1).1 x0 2)) x2).1 x0 13), .ref x0] rfl (fun _ => rfl) rfl ?_
    refine dg_s (pc' := 44) [.int x3, .int ((dc_wi (dc_wi m (x0 + 9) (Int32.toNatClampNeg (m.1 x0 2)) x1) (x0 + 10) (Int32.toNatClampNeg ((dc_wi m (x0 + 9) (Int32.toNatClampNeg (m.1 x0 2)) x1).1 x0 2)) x2).1 x0 13), .ref x0] rfl (fun _ => rfl) rfl ?_
    refine dg_s (pc' := 45) [.ref x0, .int x3, .int ((dc_wi (dc_wi m (x0 + 9) (Int32.toNatClampNeg (m.1 x0 2)) x1) (x0 + 10) (Int32.toNatClampNeg ((dc_wi m (x0 + 9) (Int32.toNatClampNeg (m.1 x0 2)) x1).1 x0 2)) x2).1 x0 13), .ref x0] rfl (fun _ => rfl) rfl ?_
    refine dg_s (pc' := 48) [.int ((dc_wi (dc_wi m (x0 + 9) (Int32.toNatClampNeg (m.1 x0 2)) x1) (x0 + 10) (Int32.toNatClampNeg ((dc_wi m (x0 + 9) (Int32.toNatClampNeg (m.1 x0 2)) x1).1 x0 2)) x2).1 x0 2), .int x3, .int ((dc_wi (dc_wi m (x0 + 9) (Int32.toNatClampNeg (m.1 x0 2)) x1) (x0 + 10) (Int32.toNatClampNeg ((dc_wi m (x0 + 9) (Int32.toNatClampNeg (m.1 x0 2)) x1).1 x0 2)) x2).1 x0 13), .ref x0] rfl (fun _ => rfl) rfl ?_
    refine dg_s (pc' := 49) [.int (x3 <<< (((dc_wi (dc_wi m (x0 + 9) (Int32.toNatClampNeg (m.1 x0 2)) x1) (x0 + 10) (Int32.toNatClampNeg ((dc_wi m (x0 + 9) (Int32.toNatClampNeg (m.1 x0 2)) x1).1 x0 2)) x2).1 x0 2) &&& 31)), .int ((dc_wi (dc_wi m (x0 + 9) (Int32.toNatClampNeg (m.1 x0 2)) x1) (x0 + 10) (Int32.toNatClampNeg ((dc_wi m (x0 + 9) (Int32.toNatClampNeg (m.1 x0 2)) x1).1 x0 2)) x2).1 x0 13), .ref x0] rfl (fun _ => rfl) rfl ?_
    refine dg_s (pc' := 50) [.int (((dc_wi (dc_wi m (x0 + 9) (Int32.toNatClampNeg (m.1 x0 2)) x1) (x0 + 10) (Int32.toNatClampNeg ((dc_wi m (x0 + 9) (Int32.toNatClampNeg (m.1 x0 2)) x1).1 x0 2)) x2).1 x0 13) ||| (x3 <<< (((dc_wi (dc_wi m (x0 + 9) (Int32.toNatClampNeg (m.1 x0 2)) x1) (x0 + 10) (Int32.toNatClampNeg ((dc_wi m (x0 + 9) (Int32.toNatClampNeg (m.1 x0 2)) x1).1 x0 2)) x2).1 x0 2) &&& 31))), .ref x0] rfl (fun _ => rfl) rfl ?_
    refine dg_m (pc' := 53) (dc_wi (dc_wi (dc_wi m (x0 + 9) (Int32.toNatClampNeg (m.1 x0 2)) x1) (x0 + 10) (Int32.toNatClampNeg ((dc_wi m (x0 + 9) (Int32.toNatClampNeg (m.1 x0 2)) x1).1 x0 2)) x2) x0 13 (((dc_wi (dc_wi m (x0 + 9) (Int32.toNatClampNeg (m.1 x0 2)) x1) (x0 + 10) (Int32.toNatClampNeg ((dc_wi m (x0 + 9) (Int32.toNatClampNeg (m.1 x0 2)) x1).1 x0 2)) x2).1 x0 13) ||| (x3 <<< (((dc_wi (dc_wi m (x0 + 9) (Int32.toNatClampNeg (m.1 x0 2)) x1) (x0 + 10) (Int32.toNatClampNeg ((dc_wi m (x0 + 9) (Int32.toNatClampNeg (m.1 x0 2)) x1).1 x0 2)) x2).1 x0 2) &&& 31)))) [] rfl (fun _ => rfl) rfl ?_
    refine dg_s (pc' := 54) [.int (0 : Int32)] rfl (fun _ => rfl) rfl ?_
    refine dw_L (pc' := 56) [(5, .int (0 : Int32)), (4, .int ((1 : Int32) <<< ((m.1 x0 2) &&& 31))), (0, .ref x0), (1, .int x1), (2, .int x2), (3, .int x3)] [] rfl (fun _ => rfl) ?_
    exact dw_j rfl (fun lv1 hv => k_X3_addPlace_l56 (Φ := (fun t => Φ t)) x0 x1 x2 ((1 : Int32) <<< ((m.1 x0 2) &&& 31)) (fun _b => kR _b) N  (0 : Int32) (dc_wi (dc_wi (dc_wi m (x0 + 9) (Int32.toNatClampNeg (m.1 x0 2)) x1) (x0 + 10) (Int32.toNatClampNeg ((dc_wi m (x0 + 9) (Int32.toNatClampNeg (m.1 x0 2)) x1).1 x0 2)) x2) x0 13 (((dc_wi (dc_wi m (x0 + 9) (Int32.toNatClampNeg (m.1 x0 2)) x1) (x0 + 10) (Int32.toNatClampNeg ((dc_wi m (x0 + 9) (Int32.toNatClampNeg (m.1 x0 2)) x1).1 x0 2)) x2).1 x0 13) ||| (x3 <<< (((dc_wi (dc_wi m (x0 + 9) (Int32.toNatClampNeg (m.1 x0 2)) x1) (x0 + 10) (Int32.toNatClampNeg ((dc_wi m (x0 + 9) (Int32.toNatClampNeg (m.1 x0 2)) x1).1 x0 2)) x2).1 x0 2) &&& 31)))) lv1 (hv.1 _ rfl) (hv.2.1 _ rfl) (hv.2.2.1 _ rfl) (hv.2.2.2.1 _ rfl) (hv.2.2.2.2.1 _ rfl))
  · refine dw_g rfl ?_
    exact dw_r (some (.inl (none, m))) rfl (fun _ => rfl) (kR _)
noncomputable def H_X3_addPlace : dc_H := fun As m k => match As with
  | [.ref x0, .int x1, .int x2, .int x3] => (d_X3_addPlace x0 x1 x2 x3 m).bind (fun q => k (none) q)
  | _ => dc_kz
theorem H_X3_addPlace_ok {u : Nat} : dc_cok u 35 H_X3_addPlace := fun M' hG N As m k P hz hP => by
  obtain rfl : ab_M_X3_addPlace = M' := Option.some.inj hG
  unfold H_X3_addPlace at hP
  split at hP
  · rename_i x0 x1 x2 x3
    exact dc_pv.imp (k_X3_addPlace (Φ := fun (t : Option dc_M) r m' => P (t.bind (fun q => k (none) q)) → P (k r m')) x0 x1 x2 x3 m (fun _ h => h) rfl rfl rfl rfl) (fun r m' h => h hP)
  · exact absurd hP hz
def C_X4_isLetter : List (Nat × dc_H) := []
theorem CO_X4_isLetter {u : Nat} : dc_CO u C_X4_isLetter := dc_CO_nil
def S_X4_isLetter : List (Nat × List Nat) := []
def d_X4_isLetter (x0 : Nat) (m : dc_M) : Int32 :=
  (if ¬ (Int32.toInt (m.1 x0 5)) = 1 then (0 : Int32) else (if ¬ (Int32.toInt ((m.1 x0 4) - (m.1 x0 6))) = 1 then (0 : Int32) else (1 : Int32)))
set_option maxHeartbeats 8000000 in
theorem k_X4_isLetter {u : Nat} {N : Nat} {Φ : Int32 → Option Value → dc_M → Prop} (x0 : Nat) (m : dc_M) (kR : ∀ (v : Int32), Φ (v) (some (.int v)) m)  {lv : ab_L} (f0 : ab_lk lv 0 = some (.ref x0)) : dc_pv u N ab_M_X4_isLetter 0 lv [] m (Φ (d_X4_isLetter x0 m)) := by
  refine dc_pv.mono (dc_ok (C := C_X4_isLetter) (S := S_X4_isLetter) CO_X4_isLetter 400 0 [(0, .ref x0)] lv [] m (dc_sub_cons f0 (dc_sub_nil)) ?_) (Nat.le_succ N)
  unfold d_X4_isLetter
  refine dg_s (pc' := 1) [.ref x0] rfl (fun _ => rfl) rfl ?_
  refine dg_s (pc' := 4) [.int (m.1 x0 5)] rfl (fun _ => rfl) rfl ?_
  refine dg_s (pc' := 5) [.int (1 : Int32), .int (m.1 x0 5)] rfl (fun _ => rfl) rfl ?_
  refine dw_if (fun t => Φ t) (¬ (Int32.toInt (m.1 x0 5)) = 1) [] 25 8 rfl (fun _ => rfl) (fun c0 => ?_) (fun c0 => ?_)
  · refine dw_g rfl ?_
    refine dg_s (pc' := 26) [.int (0 : Int32)] rfl (fun _ => rfl) rfl ?_
    exact dw_r (some (.inl (some (.int (0 : Int32)), m))) rfl (fun _ => rfl) (kR _)
  · refine dw_g rfl ?_
    refine dg_s (pc' := 9) [.ref x0] rfl (fun _ => rfl) rfl ?_
    refine dg_s (pc' := 12) [.int (m.1 x0 4)] rfl (fun _ => rfl) rfl ?_
    refine dg_s (pc' := 13) [.ref x0, .int (m.1 x0 4)] rfl (fun _ => rfl) rfl ?_
    refine dg_s (pc' := 16) [.int (m.1 x0 6), .int (m.1 x0 4)] rfl (fun _ => rfl) rfl ?_
    refine dg_s (pc' := 17) [.int ((m.1 x0 4) - (m.1 x0 6))] rfl (fun _ => rfl) rfl ?_
    refine dg_s (pc' := 18) [.int (1 : Int32), .int ((m.1 x0 4) - (m.1 x0 6))] rfl (fun _ => rfl) rfl ?_
    refine dw_if (fun t => Φ t) (¬ (Int32.toInt ((m.1 x0 4) - (m.1 x0 6))) = 1) [] 25 21 rfl (fun _ => rfl) (fun c1 => ?_) (fun c1 => ?_)
    · refine dw_g rfl ?_
      refine dg_s (pc' := 26) [.int (0 : Int32)] rfl (fun _ => rfl) rfl ?_
      exact dw_r (some (.inl (some (.int (0 : Int32)), m))) rfl (fun _ => rfl) (kR _)
    · refine dw_g rfl ?_
      refine dg_s (pc' := 22) [.int (1 : Int32)] rfl (fun _ => rfl) rfl ?_
      refine dg_s (pc' := 26) [.int (1 : Int32)] rfl (fun _ => rfl) rfl ?_
      exact dw_r (some (.inl (some (.int (1 : Int32)), m))) rfl (fun _ => rfl) (kR _)
def H_X4_isLetter : dc_H := fun As m k => match As with
  | [.ref x0] => k (some (.int (d_X4_isLetter x0 m))) m
  | _ => dc_kz
theorem H_X4_isLetter_ok {u : Nat} : dc_cok u 57 H_X4_isLetter := fun M' hG N As m k P hz hP => by
  obtain rfl : ab_M_X4_isLetter = M' := Option.some.inj hG
  unfold H_X4_isLetter at hP
  split at hP
  · rename_i x0
    exact dc_pv.imp (k_X4_isLetter (Φ := fun (t : Int32) r m' => P (k (some (.int t)) m) → P (k r m')) x0 m (fun _  h => h) rfl) (fun r m' h => h hP)
  · exact absurd hP hz
def C_X3_wireCalled : List (Nat × dc_H) := []
theorem CO_X3_wireCalled {u : Nat} : dc_CO u C_X3_wireCalled := dc_CO_nil
def S_X3_wireCalled : List (Nat × List Nat) := [(2, [0, 1, 2])]
noncomputable def d_X3_wireCalled_l2b (x0 : Nat) (x1 : Int32) (x2 : Int32) (m : dc_M) : Option (Int32 ⊕ Int32) :=
  (if (Int32.toInt (m.1 x0 0)) ≤ (Int32.toInt x2) then some (Sum.inr ((-4 : Int32))) else (if ¬ (Int32.toInt (m.1 (x0 + 1) (Int32.toNatClampNeg x2))) = (Int32.toInt x1) then some (Sum.inl (x2 + (1 : Int32))) else some (Sum.inr (x2))))
noncomputable def d_X3_wireCalled_l2s (x0 : Nat) (x1 : Int32) (m : dc_M) : Int32 → Option (Int32 ⊕ Int32) := fun s => d_X3_wireCalled_l2b x0 x1 s m
noncomputable def d_X3_wireCalled_l2 (x0 : Nat) (x1 : Int32) (x2 : Int32) (m : dc_M) : Option Int32 := dc_lp (d_X3_wireCalled_l2s x0 x1 m) x2
set_option maxHeartbeats 8000000 in
theorem k_X3_wireCalled_l2 {u : Nat} {Φ : (Option Int32) → Option Value → dc_M → Prop} (x0 : Nat) (x1 : Int32) (m : dc_M) (kR : ∀ (v : Int32), Φ (some (v)) (some (.int v)) m) : ∀ (N : Nat), ∀ (x2 : Int32) (lv : ab_L), ab_lk lv 0 = some (.ref x0) → ab_lk lv 1 = some (.int x1) → ab_lk lv 2 = some (.int x2) → dc_pv u N ab_M_X3_wireCalled 2 lv [] m (Φ (d_X3_wireCalled_l2 x0 x1 x2 m)) := by
  intro N
  induction N with
  | zero => intros; exact dc_pv_zero
  | succ N ih =>
    intro x2 lv f0 f1 f2
    refine dc_ok (C := C_X3_wireCalled) (S := S_X3_wireCalled) CO_X3_wireCalled 400 2 [(0, .ref x0), (1, .int x1), (2, .int x2)] lv [] m (dc_sub_cons f0 (dc_sub_cons f1 (dc_sub_cons f2 (dc_sub_nil)))) ?_
    unfold d_X3_wireCalled_l2
    rw [dc_lp_eq]
    show (fun t x => dc_lf u N ab_M_X3_wireCalled (Φ (Option.bind t (dc_bk (d_X3_wireCalled_l2s x0 x1 m)))) x) (d_X3_wireCalled_l2b x0 x1 x2 m) _
    dsimp only
    unfold d_X3_wireCalled_l2b
    refine dg_s (pc' := 3) [.int x2] rfl (fun _ => rfl) rfl ?_
    refine dg_s (pc' := 4) [.ref x0, .int x2] rfl (fun _ => rfl) rfl ?_
    refine dg_s (pc' := 7) [.int (m.1 x0 0), .int x2] rfl (fun _ => rfl) rfl ?_
    refine dw_if (fun t => Φ (Option.bind t (dc_bk (d_X3_wireCalled_l2s x0 x1 m)))) ((Int32.toInt (m.1 x0 0)) ≤ (Int32.toInt x2)) [] 28 10 rfl (fun _ => rfl) (fun c0 => ?_) (fun c0 => ?_)
    · refine dw_g rfl ?_
      refine dg_s (pc' := 30) [.int (-4 : Int32)] rfl (fun _ => rfl) rfl ?_
      exact dw_r (some (.inl (some (.int (-4 : Int32)), m))) rfl (fun _ => rfl) (kR _)
    · refine dw_g rfl ?_
      refine dg_s (pc' := 11) [.ref x0] rfl (fun _ => rfl) rfl ?_
      refine dg_s (pc' := 14) [.ref (x0 + 1)] rfl (fun _ => rfl) rfl ?_
      refine dg_s (pc' := 15) [.int x2, .ref (x0 + 1)] rfl (fun _ => rfl) rfl ?_
      refine dg_s (pc' := 16) [.int (m.1 (x0 + 1) (Int32.toNatClampNeg x2))] rfl (fun _ => rfl) rfl ?_
      refine dg_s (pc' := 17) [.int x1, .int (m.1 (x0 + 1) (Int32.toNatClampNeg x2))] rfl (fun _ => rfl) rfl ?_
      refine dw_if (fun t => Φ (Option.bind t (dc_bk (d_X3_wireCalled_l2s x0 x1 m)))) (¬ (Int32.toInt (m.1 (x0 + 1) (Int32.toNatClampNeg x2))) = (Int32.toInt x1)) [] 22 20 rfl (fun _ => rfl) (fun c1 => ?_) (fun c1 => ?_)
      · refine dw_g rfl ?_
        refine dg_L (pc' := 25) [(2, .int (x2 + (1 : Int32))), (0, .ref x0), (1, .int x1)] [] rfl (fun _ => rfl) rfl ?_
        refine dw_s (pc' := 2) [] rfl (fun _ => rfl) ?_
        exact dw_j rfl (fun lv1 hv => ih (x2 + (1 : Int32)) lv1 (hv.1 _ rfl) (hv.2.1 _ rfl) (hv.2.2.1 _ rfl))
      · refine dw_g rfl ?_
        refine dg_s (pc' := 21) [.int x2] rfl (fun _ => rfl) rfl ?_
        exact dw_r (some (.inl (some (.int x2), m))) rfl (fun _ => rfl) (kR _)
noncomputable def d_X3_wireCalled (x0 : Nat) (x1 : Int32) (m : dc_M) : Option Int32 :=
  (d_X3_wireCalled_l2 x0 x1 (0 : Int32) m)
set_option maxHeartbeats 8000000 in
theorem k_X3_wireCalled {u : Nat} {N : Nat} {Φ : (Option Int32) → Option Value → dc_M → Prop} (x0 : Nat) (x1 : Int32) (m : dc_M) (kR : ∀ (v : Int32), Φ (some (v)) (some (.int v)) m)  {lv : ab_L} (f0 : ab_lk lv 0 = some (.ref x0)) (f1 : ab_lk lv 1 = some (.int x1)) : dc_pv u N ab_M_X3_wireCalled 0 lv [] m (Φ (d_X3_wireCalled x0 x1 m)) := by
  refine dc_pv.mono (dc_ok (C := C_X3_wireCalled) (S := S_X3_wireCalled) CO_X3_wireCalled 400 0 [(0, .ref x0), (1, .int x1)] lv [] m (dc_sub_cons f0 (dc_sub_cons f1 (dc_sub_nil))) ?_) (Nat.le_succ N)
  unfold d_X3_wireCalled
  refine dg_s (pc' := 1) [.int (0 : Int32)] rfl (fun _ => rfl) rfl ?_
  refine dw_L (pc' := 2) [(2, .int (0 : Int32)), (0, .ref x0), (1, .int x1)] [] rfl (fun _ => rfl) ?_
  exact dw_j rfl (fun lv1 hv => k_X3_wireCalled_l2 (Φ := (fun t => Φ t)) x0 x1 m (fun _a  => kR _a) N  (0 : Int32) lv1 (hv.1 _ rfl) (hv.2.1 _ rfl) (hv.2.2.1 _ rfl))
noncomputable def H_X3_wireCalled : dc_H := fun As m k => match As with
  | [.ref x0, .int x1] => (d_X3_wireCalled x0 x1 m).bind (fun q => k (some (.int q)) m)
  | _ => dc_kz
theorem H_X3_wireCalled_ok {u : Nat} : dc_cok u 31 H_X3_wireCalled := fun M' hG N As m k P hz hP => by
  obtain rfl : ab_M_X3_wireCalled = M' := Option.some.inj hG
  unfold H_X3_wireCalled at hP
  split at hP
  · rename_i x0 x1
    exact dc_pv.imp (k_X3_wireCalled (Φ := fun (t : Option Int32) r m' => P (t.bind (fun q => k (some (.int q)) m)) → P (k r m')) x0 x1 m (fun _  h => h) rfl rfl) (fun r m' h => h hP)
  · exact absurd hP hz
def C_X4_isSign : List (Nat × dc_H) := []
theorem CO_X4_isSign {u : Nat} : dc_CO u C_X4_isSign := dc_CO_nil
def S_X4_isSign : List (Nat × List Nat) := []
def d_X4_isSign (x0 : Nat) (x1 : Int32) (m : dc_M) : Int32 :=
  (if ¬ (Int32.toInt (m.1 x0 5)) = 3 then (0 : Int32) else (if ¬ (Int32.toInt (m.1 x0 7)) = (Int32.toInt x1) then (0 : Int32) else (1 : Int32)))
set_option maxHeartbeats 8000000 in
theorem k_X4_isSign {u : Nat} {N : Nat} {Φ : Int32 → Option Value → dc_M → Prop} (x0 : Nat) (x1 : Int32) (m : dc_M) (kR : ∀ (v : Int32), Φ (v) (some (.int v)) m)  {lv : ab_L} (f0 : ab_lk lv 0 = some (.ref x0)) (f1 : ab_lk lv 1 = some (.int x1)) : dc_pv u N ab_M_X4_isSign 0 lv [] m (Φ (d_X4_isSign x0 x1 m)) := by
  refine dc_pv.mono (dc_ok (C := C_X4_isSign) (S := S_X4_isSign) CO_X4_isSign 400 0 [(0, .ref x0), (1, .int x1)] lv [] m (dc_sub_cons f0 (dc_sub_cons f1 (dc_sub_nil))) ?_) (Nat.le_succ N)
  unfold d_X4_isSign
  refine dg_s (pc' := 1) [.ref x0] rfl (fun _ => rfl) rfl ?_
  refine dg_s (pc' := 4) [.int (m.1 x0 5)] rfl (fun _ => rfl) rfl ?_
  refine dg_s (pc' := 5) [.int (3 : Int32), .int (m.1 x0 5)] rfl (fun _ => rfl) rfl ?_
  refine dw_if (fun t => Φ t) (¬ (Int32.toInt (m.1 x0 5)) = 3) [] 20 8 rfl (fun _ => rfl) (fun c0 => ?_) (fun c0 => ?_)
  · refine dw_g rfl ?_
    refine dg_s (pc' := 21) [.int (0 : Int32)] rfl (fun _ => rfl) rfl ?_
    exact dw_r (some (.inl (some (.int (0 : Int32)), m))) rfl (fun _ => rfl) (kR _)
  · refine dw_g rfl ?_
    refine dg_s (pc' := 9) [.ref x0] rfl (fun _ => rfl) rfl ?_
    refine dg_s (pc' := 12) [.int (m.1 x0 7)] rfl (fun _ => rfl) rfl ?_
    refine dg_s (pc' := 13) [.int x1, .int (m.1 x0 7)] rfl (fun _ => rfl) rfl ?_
    refine dw_if (fun t => Φ t) (¬ (Int32.toInt (m.1 x0 7)) = (Int32.toInt x1)) [] 20 16 rfl (fun _ => rfl) (fun c1 => ?_) (fun c1 => ?_)
    · refine dw_g rfl ?_
      refine dg_s (pc' := 21) [.int (0 : Int32)] rfl (fun _ => rfl) rfl ?_
      exact dw_r (some (.inl (some (.int (0 : Int32)), m))) rfl (fun _ => rfl) (kR _)
    · refine dw_g rfl ?_
      refine dg_s (pc' := 17) [.int (1 : Int32)] rfl (fun _ => rfl) rfl ?_
      refine dg_s (pc' := 21) [.int (1 : Int32)] rfl (fun _ => rfl) rfl ?_
      exact dw_r (some (.inl (some (.int (1 : Int32)), m))) rfl (fun _ => rfl) (kR _)
def H_X4_isSign : dc_H := fun As m k => match As with
  | [.ref x0, .int x1] => k (some (.int (d_X4_isSign x0 x1 m))) m
  | _ => dc_kz
theorem H_X4_isSign_ok {u : Nat} : dc_cok u 58 H_X4_isSign := fun M' hG N As m k P hz hP => by
  obtain rfl : ab_M_X4_isSign = M' := Option.some.inj hG
  unfold H_X4_isSign at hP
  split at hP
  · rename_i x0 x1
    exact dc_pv.imp (k_X4_isSign (Φ := fun (t : Int32) r m' => P (k (some (.int t)) m) → P (k r m')) x0 x1 m (fun _  h => h) rfl rfl) (fun r m' h => h hP)
  · exact absurd hP hz
def C_X3_addEvent : List (Nat × dc_H) := []
theorem CO_X3_addEvent {u : Nat} : dc_CO u C_X3_addEvent := dc_CO_nil
def S_X3_addEvent : List (Nat × List Nat) := []
def d_X3_addEvent (x0 : Nat) (x1 : Int32) (x2 : Int32) (x3 : Int32) (m : dc_M) : (Int32 × dc_M) :=
  (if (Int32.toInt (m.1 x0 1)) < 16 then (((dc_wi (dc_wi (dc_wi (dc_wi (dc_wi (dc_wi m (x0 + 3) (Int32.toNatClampNeg (m.1 x0 1)) x1) (x0 + 4) (Int32.toNatClampNeg ((dc_wi m (x0 + 3) (Int32.toNatClampNeg (m.1 x0 1)) x1).1 x0 1)) x2) (x0 + 5) (Int32.toNatClampNeg ((dc_wi (dc_wi m (x0 + 3) (Int32.toNatClampNeg (m.1 x0 1)) x1) (x0 + 4) (Int32.toNatClampNeg ((dc_wi m (x0 + 3) (Int32.toNatClampNeg (m.1 x0 1)) x1).1 x0 1)) x2).1 x0 1)) x3) (x0 + 6) (Int32.toNatClampNeg ((dc_wi (dc_wi (dc_wi m (x0 + 3) (Int32.toNatClampNeg (m.1 x0 1)) x1) (x0 + 4) (Int32.toNatClampNeg ((dc_wi m (x0 + 3) (Int32.toNatClampNeg (m.1 x0 1)) x1).1 x0 1)) x2) (x0 + 5) (Int32.toNatClampNeg ((dc_wi (dc_wi m (x0 + 3) (Int32.toNatClampNeg (m.1 x0 1)) x1) (x0 + 4) (Int32.toNatClampNeg ((dc_wi m (x0 + 3) (Int32.toNatClampNeg (m.1 x0 1)) x1).1 x0 1)) x2).1 x0 1)) x3).1 x0 1)) (0 : Int32)) (x0 + 7) (Int32.toNatClampNeg ((dc_wi (dc_wi (dc_wi (dc_wi m (x0 + 3) (Int32.toNatClampNeg (m.1 x0 1)) x1) (x0 + 4) (Int32.toNatClampNeg ((dc_wi m (x0 + 3) (Int32.toNatClampNeg (m.1 x0 1)) x1).1 x0 1)) x2) (x0 + 5) (Int32.toNatClampNeg ((dc_wi (dc_wi m (x0 + 3) (Int32.toNatClampNeg (m.1 x0 1)) x1) (x0 + 4) (Int32.toNatClampNeg ((dc_wi m (x0 + 3) (Int32.toNatClampNeg (m.1 x0 1)) x1).1 x0 1)) x2).1 x0 1)) x3) (x0 + 6) (Int32.toNatClampNeg ((dc_wi (dc_wi (dc_wi m (x0 + 3) (Int32.toNatClampNeg (m.1 x0 1)) x1) (x0 + 4) (Int32.toNatClampNeg ((dc_wi m (x0 + 3) (Int32.toNatClampNeg (m.1 x0 1)) x1).1 x0 1)) x2) (x0 + 5) (Int32.toNatClampNeg ((dc_wi (dc_wi m (x0 + 3) (Int32.toNatClampNeg (m.1 x0 1)) x1) (x0 + 4) (Int32.toNatClampNeg ((dc_wi m (x0 + 3) (Int32.toNatClampNeg (m.1 x0 1)) x1).1 x0 1)) x2).1 x0 1)) x3).1 x0 1)) (0 : Int32)).1 x0 1)) (0 : Int32)) (x0 + 8) (Int32.toNatClampNeg ((dc_wi (dc_wi (dc_wi (dc_wi (dc_wi m (x0 + 3) (Int32.toNatClampNeg (m.1 x0 1)) x1) (x0 + 4) (Int32.toNatClampNeg ((dc_wi m (x0 + 3) (Int32.toNatClampNeg (m.1 x0 1)) x1).1 x0 1)) x2) (x0 + 5) (Int32.toNatClampNeg ((dc_wi (dc_wi m (x0 + 3) (Int32.toNatClampNeg (m.1 x0 1)) x1) (x0 + 4) (Int32.toNatClampNeg ((dc_wi m (x0 + 3) (Int32.toNatClampNeg (m.1 x0 1)) x1).1 x0 1)) x2).1 x0 1)) x3) (x0 + 6) (Int32.toNatClampNeg ((dc_wi (dc_wi (dc_wi m (x0 + 3) (Int32.toNatClampNeg (m.1 x0 1)) x1) (x0 + 4) (Int32.toNatClampNeg ((dc_wi m (x0 + 3) (Int32.toNatClampNeg (m.1 x0 1)) x1).1 x0 1)) x2) (x0 + 5) (Int32.toNatClampNeg ((dc_wi (dc_wi m (x0 + 3) (Int32.toNatClampNeg (m.1 x0 1)) x1) (x0 + 4) (Int32.toNatClampNeg ((dc_wi m (x0 + 3) (Int32.toNatClampNeg (m.1 x0 1)) x1).1 x0 1)) x2).1 x0 1)) x3).1 x0 1)) (0 : Int32)) (x0 + 7) (Int32.toNatClampNeg ((dc_wi (dc_wi (dc_wi (dc_wi m (x0 + 3) (Int32.toNatClampNeg (m.1 x0 1)) x1) (x0 + 4) (Int32.toNatClampNeg ((dc_wi m (x0 + 3) (Int32.toNatClampNeg (m.1 x0 1)) x1).1 x0 1)) x2) (x0 + 5) (Int32.toNatClampNeg ((dc_wi (dc_wi m (x0 + 3) (Int32.toNatClampNeg (m.1 x0 1)) x1) (x0 + 4) (Int32.toNatClampNeg ((dc_wi m (x0 + 3) (Int32.toNatClampNeg (m.1 x0 1)) x1).1 x0 1)) x2).1 x0 1)) x3) (x0 + 6) (Int32.toNatClampNeg ((dc_wi (dc_wi (dc_wi m (x0 + 3) (Int32.toNatClampNeg (m.1 x0 1)) x1) (x0 + 4) (Int32.toNatClampNeg ((dc_wi m (x0 + 3) (Int32.toNatClampNeg (m.1 x0 1)) x1).1 x0 1)) x2) (x0 + 5) (Int32.toNatClampNeg ((dc_wi (dc_wi m (x0 + 3) (Int32.toNatClampNeg (m.1 x0 1)) x1) (x0 + 4) (Int32.toNatClampNeg ((dc_wi m (x0 + 3) (Int32.toNatClampNeg (m.1 x0 1)) x1).1 x0 1)) x2).1 x0 1)) x3).1 x0 1)) (0 : Int32)).1 x0 1)) (0 : Int32)).1 x0 1)) (1 : Int32)).1 x0 1), (dc_wi (dc_wi (dc_wi (dc_wi (dc_wi (dc_wi (dc_wi m (x0 + 3) (Int32.toNatClampNeg (m.1 x0 1)) x1) (x0 + 4) (Int32.toNatClampNeg ((dc_wi m (x0 + 3) (Int32.toNatClampNeg (m.1 x0 1)) x1).1 x0 1)) x2) (x0 + 5) (Int32.toNatClampNeg ((dc_wi (dc_wi m (x0 + 3) (Int32.toNatClampNeg (m.1 x0 1)) x1) (x0 + 4) (Int32.toNatClampNeg ((dc_wi m (x0 + 3) (Int32.toNatClampNeg (m.1 x0 1)) x1).1 x0 1)) x2).1 x0 1)) x3) (x0 + 6) (Int32.toNatClampNeg ((dc_wi (dc_wi (dc_wi m (x0 + 3) (Int32.toNatClampNeg (m.1 x0 1)) x1) (x0 + 4) (Int32.toNatClampNeg ((dc_wi m (x0 + 3) (Int32.toNatClampNeg (m.1 x0 1)) x1).1 x0 1)) x2) (x0 + 5) (Int32.toNatClampNeg ((dc_wi (dc_wi m (x0 + 3) (Int32.toNatClampNeg (m.1 x0 1)) x1) (x0 + 4) (Int32.toNatClampNeg ((dc_wi m (x0 + 3) (Int32.toNatClampNeg (m.1 x0 1)) x1).1 x0 1)) x2).1 x0 1)) x3).1 x0 1)) (0 : Int32)) (x0 + 7) (Int32.toNatClampNeg ((dc_wi (dc_wi (dc_wi (dc_wi m (x0 + 3) (Int32.toNatClampNeg (m.1 x0 1)) x1) (x0 + 4) (Int32.toNatClampNeg ((dc_wi m (x0 + 3) (Int32.toNatClampNeg (m.1 x0 1)) x1).1 x0 1)) x2) (x0 + 5) (Int32.toNatClampNeg ((dc_wi (dc_wi m (x0 + 3) (Int32.toNatClampNeg (m.1 x0 1)) x1) (x0 + 4) (Int32.toNatClampNeg ((dc_wi m (x0 + 3) (Int32.toNatClampNeg (m.1 x0 1)) x1).1 x0 1)) x2).1 x0 1)) x3) (x0 + 6) (Int32.toNatClampNeg ((dc_wi (dc_wi (dc_wi m (x0 + 3) (Int32.toNatClampNeg (m.1 x0 1)) x1) (x0 + 4) (Int32.toNatClampNeg ((dc_wi m (x0 + 3) (Int32.toNatClampNeg (m.1 x0 1)) x1).1 x0 1)) x2) (x0 + 5) (Int32.toNatClampNeg ((dc_wi (dc_wi m (x0 + 3) (Int32.toNatClampNeg (m.1 x0 1)) x1) (x0 + 4) (Int32.toNatClampNeg ((dc_wi m (x0 + 3) (Int32.toNatClampNeg (m.1 x0 1)) x1).1 x0 1)) x2).1 x0 1)) x3).1 x0 1)) (0 : Int32)).1 x0 1)) (0 : Int32)) (x0 + 8) (Int32.toNatClampNeg ((dc_wi (dc_wi (dc_wi (dc_wi (dc_wi m (x0 + 3) (Int32.toNatClampNeg (m.1 x0 1)) x1) (x0 + 4) (Int32.toNatClampNeg ((dc_wi m (x0 + 3) (Int32.toNatClampNeg (m.1 x0 1)) x1).1 x0 1)) x2) (x0 + 5) (Int32.toNatClampNeg ((dc_wi (dc_wi m (x0 + 3) (Int32.toNatClampNeg (m.1 x0 1)) x1) (x0 + 4) (Int32.toNatClampNeg ((dc_wi m (x0 + 3) (Int32.toNatClampNeg (m.1 x0 1)) x1).1 x0 1)) x2).1 x0 1)) x3) (x0 + 6) (Int32.toNatClampNeg ((dc_wi (dc_wi (dc_wi m (x0 + 3) (Int32.toNatClampNeg (m.1 x0 1)) x1) (x0 + 4) (Int32.toNatClampNeg ((dc_wi m (x0 + 3) (Int32.toNatClampNeg (m.1 x0 1)) x1).1 x0 1)) x2) (x0 + 5) (Int32.toNatClampNeg ((dc_wi (dc_wi m (x0 + 3) (Int32.toNatClampNeg (m.1 x0 1)) x1) (x0 + 4) (Int32.toNatClampNeg ((dc_wi m (x0 + 3) (Int32.toNatClampNeg (m.1 x0 1)) x1).1 x0 1)) x2).1 x0 1)) x3).1 x0 1)) (0 : Int32)) (x0 + 7) (Int32.toNatClampNeg ((dc_wi (dc_wi (dc_wi (dc_wi m (x0 + 3) (Int32.toNatClampNeg (m.1 x0 1)) x1) (x0 + 4) (Int32.toNatClampNeg ((dc_wi m (x0 + 3) (Int32.toNatClampNeg (m.1 x0 1)) x1).1 x0 1)) x2) (x0 + 5) (Int32.toNatClampNeg ((dc_wi (dc_wi m (x0 + 3) (Int32.toNatClampNeg (m.1 x0 1)) x1) (x0 + 4) (Int32.toNatClampNeg ((dc_wi m (x0 + 3) (Int32.toNatClampNeg (m.1 x0 1)) x1).1 x0 1)) x2).1 x0 1)) x3) (x0 + 6) (Int32.toNatClampNeg ((dc_wi (dc_wi (dc_wi m (x0 + 3) (Int32.toNatClampNeg (m.1 x0 1)) x1) (x0 + 4) (Int32.toNatClampNeg ((dc_wi m (x0 + 3) (Int32.toNatClampNeg (m.1 x0 1)) x1).1 x0 1)) x2) (x0 + 5) (Int32.toNatClampNeg ((dc_wi (dc_wi m (x0 + 3) (Int32.toNatClampNeg (m.1 x0 1)) x1) (x0 + 4) (Int32.toNatClampNeg ((dc_wi m (x0 + 3) (Int32.toNatClampNeg (m.1 x0 1)) x1).1 x0 1)) x2).1 x0 1)) x3).1 x0 1)) (0 : Int32)).1 x0 1)) (0 : Int32)).1 x0 1)) (1 : Int32)) x0 1 (((dc_wi (dc_wi (dc_wi (dc_wi (dc_wi (dc_wi m (x0 + 3) (Int32.toNatClampNeg (m.1 x0 1)) x1) (x0 + 4) (Int32.toNatClampNeg ((dc_wi m (x0 + 3) (Int32.toNatClampNeg (m.1 x0 1)) x1).1 x0 1)) x2) (x0 + 5) (Int32.toNatClampNeg ((dc_wi (dc_wi m (x0 + 3) (Int32.toNatClampNeg (m.1 x0 1)) x1) (x0 + 4) (Int32.toNatClampNeg ((dc_wi m (x0 + 3) (Int32.toNatClampNeg (m.1 x0 1)) x1).1 x0 1)) x2).1 x0 1)) x3) (x0 + 6) (Int32.toNatClampNeg ((dc_wi (dc_wi (dc_wi m (x0 + 3) (Int32.toNatClampNeg (m.1 x0 1)) x1) (x0 + 4) (Int32.toNatClampNeg ((dc_wi m (x0 + 3) (Int32.toNatClampNeg (m.1 x0 1)) x1).1 x0 1)) x2) (x0 + 5) (Int32.toNatClampNeg ((dc_wi (dc_wi m (x0 + 3) (Int32.toNatClampNeg (m.1 x0 1)) x1) (x0 + 4) (Int32.toNatClampNeg ((dc_wi m (x0 + 3) (Int32.toNatClampNeg (m.1 x0 1)) x1).1 x0 1)) x2).1 x0 1)) x3).1 x0 1)) (0 : Int32)) (x0 + 7) (Int32.toNatClampNeg ((dc_wi (dc_wi (dc_wi (dc_wi m (x0 + 3) (Int32.toNatClampNeg (m.1 x0 1)) x1) (x0 + 4) (Int32.toNatClampNeg ((dc_wi m (x0 + 3) (Int32.toNatClampNeg (m.1 x0 1)) x1).1 x0 1)) x2) (x0 + 5) (Int32.toNatClampNeg ((dc_wi (dc_wi m (x0 + 3) (Int32.toNatClampNeg (m.1 x0 1)) x1) (x0 + 4) (Int32.toNatClampNeg ((dc_wi m (x0 + 3) (Int32.toNatClampNeg (m.1 x0 1)) x1).1 x0 1)) x2).1 x0 1)) x3) (x0 + 6) (Int32.toNatClampNeg ((dc_wi (dc_wi (dc_wi m (x0 + 3) (Int32.toNatClampNeg (m.1 x0 1)) x1) (x0 + 4) (Int32.toNatClampNeg ((dc_wi m (x0 + 3) (Int32.toNatClampNeg (m.1 x0 1)) x1).1 x0 1)) x2) (x0 + 5) (Int32.toNatClampNeg ((dc_wi (dc_wi m (x0 + 3) (Int32.toNatClampNeg (m.1 x0 1)) x1) (x0 + 4) (Int32.toNatClampNeg ((dc_wi m (x0 + 3) (Int32.toNatClampNeg (m.1 x0 1)) x1).1 x0 1)) x2).1 x0 1)) x3).1 x0 1)) (0 : Int32)).1 x0 1)) (0 : Int32)) (x0 + 8) (Int32.toNatClampNeg ((dc_wi (dc_wi (dc_wi (dc_wi (dc_wi m (x0 + 3) (Int32.toNatClampNeg (m.1 x0 1)) x1) (x0 + 4) (Int32.toNatClampNeg ((dc_wi m (x0 + 3) (Int32.toNatClampNeg (m.1 x0 1)) x1).1 x0 1)) x2) (x0 + 5) (Int32.toNatClampNeg ((dc_wi (dc_wi m (x0 + 3) (Int32.toNatClampNeg (m.1 x0 1)) x1) (x0 + 4) (Int32.toNatClampNeg ((dc_wi m (x0 + 3) (Int32.toNatClampNeg (m.1 x0 1)) x1).1 x0 1)) x2).1 x0 1)) x3) (x0 + 6) (Int32.toNatClampNeg ((dc_wi (dc_wi (dc_wi m (x0 + 3) (Int32.toNatClampNeg (m.1 x0 1)) x1) (x0 + 4) (Int32.toNatClampNeg ((dc_wi m (x0 + 3) (Int32.toNatClampNeg (m.1 x0 1)) x1).1 x0 1)) x2) (x0 + 5) (Int32.toNatClampNeg ((dc_wi (dc_wi m (x0 + 3) (Int32.toNatClampNeg (m.1 x0 1)) x1) (x0 + 4) (Int32.toNatClampNeg ((dc_wi m (x0 + 3) (Int32.toNatClampNeg (m.1 x0 1)) x1).1 x0 1)) x2).1 x0 1)) x3).1 x0 1)) (0 : Int32)) (x0 + 7) (Int32.toNatClampNeg ((dc_wi (dc_wi (dc_wi (dc_wi m (x0 + 3) (Int32.toNatClampNeg (m.1 x0 1)) x1) (x0 + 4) (Int32.toNatClampNeg ((dc_wi m (x0 + 3) (Int32.toNatClampNeg (m.1 x0 1)) x1).1 x0 1)) x2) (x0 + 5) (Int32.toNatClampNeg ((dc_wi (dc_wi m (x0 + 3) (Int32.toNatClampNeg (m.1 x0 1)) x1) (x0 + 4) (Int32.toNatClampNeg ((dc_wi m (x0 + 3) (Int32.toNatClampNeg (m.1 x0 1)) x1).1 x0 1)) x2).1 x0 1)) x3) (x0 + 6) (Int32.toNatClampNeg ((dc_wi (dc_wi (dc_wi m (x0 + 3) (Int32.toNatClampNeg (m.1 x0 1)) x1) (x0 + 4) (Int32.toNatClampNeg ((dc_wi m (x0 + 3) (Int32.toNatClampNeg (m.1 x0 1)) x1).1 x0 1)) x2) (x0 + 5) (Int32.toNatClampNeg ((dc_wi (dc_wi m (x0 + 3) (Int32.toNatClampNeg (m.1 x0 1)) x1) (x0 + 4) (Int32.toNatClampNeg ((dc_wi m (x0 + 3) (Int32.toNatClampNeg (m.1 x0 1)) x1).1 x0 1)) x2).1 x0 1)) x3).1 x0 1)) (0 : Int32)).1 x0 1)) (0 : Int32)).1 x0 1)) (1 : Int32)).1 x0 1) + (1 : Int32)))) else ((-4 : Int32), m))
set_option maxHeartbeats 8000000 in
theorem k_X3_addEvent {u : Nat} {N : Nat} {Φ : (Int32 × dc_M) → Option Value → dc_M → Prop} (x0 : Nat) (x1 : Int32) (x2 : Int32) (x3 : Int32) (m : dc_M) (kR : ∀ (v : Int32) (m : dc_M), Φ ((v, m)) (some (.int v)) m)  {lv : ab_L} (f0 : ab_lk lv 0 = some (.ref x0)) (f1 : ab_lk lv 1 = some (.int x1)) (f2 : ab_lk lv 2 = some (.int x2)) (f3 : ab_lk lv 3 = some (.int x3)) : dc_pv u N ab_M_X3_addEvent 0 lv [] m (Φ (d_X3_addEvent x0 x1 x2 x3 m)) := by
  refine dc_pv.mono (dc_ok (C := C_X3_addEvent) (S := S_X3_addEvent) CO_X3_addEvent 400 0 [(0, .ref x0), (1, .int x1), (2, .int x2), (3, .int x3)] lv [] m (dc_sub_cons f0 (dc_sub_cons f1 (dc_sub_cons f2 (dc_sub_cons f3 (dc_sub_nil))))) ?_) (Nat.le_succ N)
  unfold d_X3_addEvent
  refine dg_s (pc' := 1) [.ref x0] rfl (fun _ => rfl) rfl ?_
  refine dg_s (pc' := 4) [.int (m.1 x0 1)] rfl (fun _ => rfl) rfl ?_
  refine dg_s (pc' := 6) [.int (16 : Int32), .int (m.1 x0 1)] rfl (fun _ => rfl) rfl ?_
  refine dw_if (fun t => Φ t) ((Int32.toInt (m.1 x0 1)) < 16) [] 12 9 rfl (fun _ => rfl) (fun c0 => ?_) (fun c0 => ?_)
  · refine dw_g rfl ?_
    refine dg_s (pc' := 13) [.ref x0] rfl (fun _ => rfl) rfl ?_
    refine dg_s (pc' := 16) [.ref (x0 + 3)] rfl (fun _ => rfl) rfl ?_
    refine dg_s (pc' := 17) [.ref x0, .ref (x0 + 3)] rfl (fun _ => rfl) rfl ?_
    refine dg_s (pc' := 20) [.int (m.1 x0 1), .ref (x0 + 3)] rfl (fun _ => rfl) rfl ?_
    refine dg_s (pc' := 21) [.int x1, .int (m.1 x0 1), .ref (x0 + 3)] rfl (fun _ => rfl) rfl ?_
    refine dg_m (pc' := 22) (dc_wi m (x0 + 3) (Int32.toNatClampNeg (m.1 x0 1)) x1) [] rfl (fun _ => rfl) rfl ?_
    refine dg_s (pc' := 23) [.ref x0] rfl (fun _ => rfl) rfl ?_
    refine dg_s (pc' := 26) [.ref (x0 + 4)] rfl (fun _ => rfl) rfl ?_
    refine dg_s (pc' := 27) [.ref x0, .ref (x0 + 4)] rfl (fun _ => rfl) rfl ?_
    refine dg_s (pc' := 30) [.int ((dc_wi m (x0 + 3) (Int32.toNatClampNeg (m.1 x0 1)) x1).1 x0 1), .ref (x0 + 4)] rfl (fun _ => rfl) rfl ?_
    refine dg_s (pc' := 31) [.int x2, .int ((dc_wi m (x0 + 3) (Int32.toNatClampNeg (m.1 x0 1)) x1).1 x0 1), .ref (x0 + 4)] rfl (fun _ => rfl) rfl ?_
    refine dg_m (pc' := 32) (dc_wi (dc_wi m (x0 + 3) (Int32.toNatClampNeg (m.1 x0 1)) x1) (x0 + 4) (Int32.toNatClampNeg ((dc_wi m (x0 + 3) (Int32.toNatClampNeg (m.1 x0 1)) x1).1 x0 1)) x2) [] rfl (fun _ => rfl) rfl ?_
    refine dg_s (pc' := 33) [.ref x0] rfl (fun _ => rfl) rfl ?_
    refine dg_s (pc' := 36) [.ref (x0 + 5)] rfl (fun _ => rfl) rfl ?_
    refine dg_s (pc' := 37) [.ref x0, .ref (x0 + 5)] rfl (fun _ => rfl) rfl ?_
    refine dg_s (pc' := 40) [.int ((dc_wi (dc_wi m (x0 + 3) (Int32.toNatClampNeg (m.1 x0 1)) x1) (x0 + 4) (Int32.toNatClampNeg ((dc_wi m (x0 + 3) (Int32.toNatClampNeg (m.1 x0 1)) x1).1 x0 1)) x2).1 x0 1), .ref (x0 + 5)] rfl (fun _ => rfl) rfl ?_
    refine dg_s (pc' := 41) [.int x3, .int ((dc_wi (dc_wi m (x0 + 3) (Int32.toNatClampNeg (m.1 x0 1)) x1) (x0 + 4) (Int32.toNatClampNeg ((dc_wi m (x0 + 3) (Int32.toNatClampNeg (m.1 x0 1)) x1).1 x0 1)) x2).1 x0 1), .ref (x0 + 5)] rfl (fun _ => rfl) rfl ?_
    refine dg_m (pc' := 42) (dc_wi (dc_wi (dc_wi m (x0 + 3) (Int32.toNatClampNeg (m.1 x0 1)) x1) (x0 + 4) (Int32.toNatClampNeg ((dc_wi m (x0 + 3) (Int32.toNatClampNeg (m.1 x0 1)) x1).1 x0 1)) x2) (x0 + 5) (Int32.toNatClampNeg ((dc_wi (dc_wi m (x0 + 3) (Int32.toNatClampNeg (m.1 x0 1)) x1) (x0 + 4) (Int32.toNatClampNeg ((dc_wi m (x0 + 3) (Int32.toNatClampNeg (m.1 x0 1)) x1).1 x0 1)) x2).1 x0 1)) x3) [] rfl (fun _ => rfl) rfl ?_
    refine dg_s (pc' := 43) [.ref x0] rfl (fun _ => rfl) rfl ?_
    refine dg_s (pc' := 46) [.ref (x0 + 6)] rfl (fun _ => rfl) rfl ?_
    refine dg_s (pc' := 47) [.ref x0, .ref (x0 + 6)] rfl (fun _ => rfl) rfl ?_
    refine dg_s (pc' := 50) [.int ((dc_wi (dc_wi (dc_wi m (x0 + 3) (Int32.toNatClampNeg (m.1 x0 1)) x1) (x0 + 4) (Int32.toNatClampNeg ((dc_wi m (x0 + 3) (Int32.toNatClampNeg (m.1 x0 1)) x1).1 x0 1)) x2) (x0 + 5) (Int32.toNatClampNeg ((dc_wi (dc_wi m (x0 + 3) (Int32.toNatClampNeg (m.1 x0 1)) x1) (x0 + 4) (Int32.toNatClampNeg ((dc_wi m (x0 + 3) (Int32.toNatClampNeg (m.1 x0 1)) x1).1 x0 1)) x2).1 x0 1)) x3).1 x0 1), .ref (x0 + 6)] rfl (fun _ => rfl) rfl ?_
    refine dg_s (pc' := 51) [.int (0 : Int32), .int ((dc_wi (dc_wi (dc_wi m (x0 + 3) (Int32.toNatClampNeg (m.1 x0 1)) x1) (x0 + 4) (Int32.toNatClampNeg ((dc_wi m (x0 + 3) (Int32.toNatClampNeg (m.1 x0 1)) x1).1 x0 1)) x2) (x0 + 5) (Int32.toNatClampNeg ((dc_wi (dc_wi m (x0 + 3) (Int32.toNatClampNeg (m.1 x0 1)) x1) (x0 + 4) (Int32.toNatClampNeg ((dc_wi m (x0 + 3) (Int32.toNatClampNeg (m.1 x0 1)) x1).1 x0 1)) x2).1 x0 1)) x3).1 x0 1), .ref (x0 + 6)] rfl (fun _ => rfl) rfl ?_
    refine dg_m (pc' := 52) (dc_wi (dc_wi (dc_wi (dc_wi m (x0 + 3) (Int32.toNatClampNeg (m.1 x0 1)) x1) (x0 + 4) (Int32.toNatClampNeg ((dc_wi m (x0 + 3) (Int32.toNatClampNeg (m.1 x0 1)) x1).1 x0 1)) x2) (x0 + 5) (Int32.toNatClampNeg ((dc_wi (dc_wi m (x0 + 3) (Int32.toNatClampNeg (m.1 x0 1)) x1) (x0 + 4) (Int32.toNatClampNeg ((dc_wi m (x0 + 3) (Int32.toNatClampNeg (m.1 x0 1)) x1).1 x0 1)) x2).1 x0 1)) x3) (x0 + 6) (Int32.toNatClampNeg ((dc_wi (dc_wi (dc_wi m (x0 + 3) (Int32.toNatClampNeg (m.1 x0 1)) x1) (x0 + 4) (Int32.toNatClampNeg ((dc_wi m (x0 + 3) (Int32.toNatClampNeg (m.1 x0 1)) x1).1 x0 1)) x2) (x0 + 5) (Int32.toNatClampNeg ((dc_wi (dc_wi m (x0 + 3) (Int32.toNatClampNeg (m.1 x0 1)) x1) (x0 + 4) (Int32.toNatClampNeg ((dc_wi m (x0 + 3) (Int32.toNatClampNeg (m.1 x0 1)) x1).1 x0 1)) x2).1 x0 1)) x3).1 x0 1)) (0 : Int32)) [] rfl (fun _ => rfl) rfl ?_
    refine dg_s (pc' := 53) [.ref x0] rfl (fun _ => rfl) rfl ?_
    refine dg_s (pc' := 56) [.ref (x0 + 7)] rfl (fun _ => rfl) rfl ?_
    refine dg_s (pc' := 57) [.ref x0, .ref (x0 + 7)] rfl (fun _ => rfl) rfl ?_
    refine dg_s (pc' := 60) [.int ((dc_wi (dc_wi (dc_wi (dc_wi m (x0 + 3) (Int32.toNatClampNeg (m.1 x0 1)) x1) (x0 + 4) (Int32.toNatClampNeg ((dc_wi m (x0 + 3) (Int32.toNatClampNeg (m.1 x0 1)) x1).1 x0 1)) x2) (x0 + 5) (Int32.toNatClampNeg ((dc_wi (dc_wi m (x0 + 3) (Int32.toNatClampNeg (m.1 x0 1)) x1) (x0 + 4) (Int32.toNatClampNeg ((dc_wi m (x0 + 3) (Int32.toNatClampNeg (m.1 x0 1)) x1).1 x0 1)) x2).1 x0 1)) x3) (x0 + 6) (Int32.toNatClampNeg ((dc_wi (dc_wi (dc_wi m (x0 + 3) (Int32.toNatClampNeg (m.1 x0 1)) x1) (x0 + 4) (Int32.toNatClampNeg ((dc_wi m (x0 + 3) (Int32.toNatClampNeg (m.1 x0 1)) x1).1 x0 1)) x2) (x0 + 5) (Int32.toNatClampNeg ((dc_wi (dc_wi m (x0 + 3) (Int32.toNatClampNeg (m.1 x0 1)) x1) (x0 + 4) (Int32.toNatClampNeg ((dc_wi m (x0 + 3) (Int32.toNatClampNeg (m.1 x0 1)) x1).1 x0 1)) x2).1 x0 1)) x3).1 x0 1)) (0 : Int32)).1 x0 1), .ref (x0 + 7)] rfl (fun _ => rfl) rfl ?_
    refine dg_s (pc' := 61) [.int (0 : Int32), .int ((dc_wi (dc_wi (dc_wi (dc_wi m (x0 + 3) (Int32.toNatClampNeg (m.1 x0 1)) x1) (x0 + 4) (Int32.toNatClampNeg ((dc_wi m (x0 + 3) (Int32.toNatClampNeg (m.1 x0 1)) x1).1 x0 1)) x2) (x0 + 5) (Int32.toNatClampNeg ((dc_wi (dc_wi m (x0 + 3) (Int32.toNatClampNeg (m.1 x0 1)) x1) (x0 + 4) (Int32.toNatClampNeg ((dc_wi m (x0 + 3) (Int32.toNatClampNeg (m.1 x0 1)) x1).1 x0 1)) x2).1 x0 1)) x3) (x0 + 6) (Int32.toNatClampNeg ((dc_wi (dc_wi (dc_wi m (x0 + 3) (Int32.toNatClampNeg (m.1 x0 1)) x1) (x0 + 4) (Int32.toNatClampNeg ((dc_wi m (x0 + 3) (Int32.toNatClampNeg (m.1 x0 1)) x1).1 x0 1)) x2) (x0 + 5) (Int32.toNatClampNeg ((dc_wi (dc_wi m (x0 + 3) (Int32.toNatClampNeg (m.1 x0 1)) x1) (x0 + 4) (Int32.toNatClampNeg ((dc_wi m (x0 + 3) (Int32.toNatClampNeg (m.1 x0 1)) x1).1 x0 1)) x2).1 x0 1)) x3).1 x0 1)) (0 : Int32)).1 x0 1), .ref (x0 + 7)] rfl (fun _ => rfl) rfl ?_
    refine dg_m (pc' := 62) (dc_wi (dc_wi (dc_wi (dc_wi (dc_wi m (x0 + 3) (Int32.toNatClampNeg (m.1 x0 1)) x1) (x0 + 4) (Int32.toNatClampNeg ((dc_wi m (x0 + 3) (Int32.toNatClampNeg (m.1 x0 1)) x1).1 x0 1)) x2) (x0 + 5) (Int32.toNatClampNeg ((dc_wi (dc_wi m (x0 + 3) (Int32.toNatClampNeg (m.1 x0 1)) x1) (x0 + 4) (Int32.toNatClampNeg ((dc_wi m (x0 + 3) (Int32.toNatClampNeg (m.1 x0 1)) x1).1 x0 1)) x2).1 x0 1)) x3) (x0 + 6) (Int32.toNatClampNeg ((dc_wi (dc_wi (dc_wi m (x0 + 3) (Int32.toNatClampNeg (m.1 x0 1)) x1) (x0 + 4) (Int32.toNatClampNeg ((dc_wi m (x0 + 3) (Int32.toNatClampNeg (m.1 x0 1)) x1).1 x0 1)) x2) (x0 + 5) (Int32.toNatClampNeg ((dc_wi (dc_wi m (x0 + 3) (Int32.toNatClampNeg (m.1 x0 1)) x1) (x0 + 4) (Int32.toNatClampNeg ((dc_wi m (x0 + 3) (Int32.toNatClampNeg (m.1 x0 1)) x1).1 x0 1)) x2).1 x0 1)) x3).1 x0 1)) (0 : Int32)) (x0 + 7) (Int32.toNatClampNeg ((dc_wi (dc_wi (dc_wi (dc_wi m (x0 + 3) (Int32.toNatClampNeg (m.1 x0 1)) x1) (x0 + 4) (Int32.toNatClampNeg ((dc_wi m (x0 + 3) (Int32.toNatClampNeg (m.1 x0 1)) x1).1 x0 1)) x2) (x0 + 5) (Int32.toNatClampNeg ((dc_wi (dc_wi m (x0 + 3) (Int32.toNatClampNeg (m.1 x0 1)) x1) (x0 + 4) (Int32.toNatClampNeg ((dc_wi m (x0 + 3) (Int32.toNatClampNeg (m.1 x0 1)) x1).1 x0 1)) x2).1 x0 1)) x3) (x0 + 6) (Int32.toNatClampNeg ((dc_wi (dc_wi (dc_wi m (x0 + 3) (Int32.toNatClampNeg (m.1 x0 1)) x1) (x0 + 4) (Int32.toNatClampNeg ((dc_wi m (x0 + 3) (Int32.toNatClampNeg (m.1 x0 1)) x1).1 x0 1)) x2) (x0 + 5) (Int32.toNatClampNeg ((dc_wi (dc_wi m (x0 + 3) (Int32.toNatClampNeg (m.1 x0 1)) x1) (x0 + 4) (Int32.toNatClampNeg ((dc_wi m (x0 + 3) (Int32.toNatClampNeg (m.1 x0 1)) x1).1 x0 1)) x2).1 x0 1)) x3).1 x0 1)) (0 : Int32)).1 x0 1)) (0 : Int32)) [] rfl (fun _ => rfl) rfl ?_
    refine dg_s (pc' := 63) [.ref x0] rfl (fun _ => rfl) rfl ?_
    refine dg_s (pc' := 66) [.ref (x0 + 8)] rfl (fun _ => rfl) rfl ?_
    refine dg_s (pc' := 67) [.ref x0, .ref (x0 + 8)] rfl (fun _ => rfl) rfl ?_
    refine dg_s (pc' := 70) [.int ((dc_wi (dc_wi (dc_wi (dc_wi (dc_wi m (x0 + 3) (Int32.toNatClampNeg (m.1 x0 1)) x1) (x0 + 4) (Int32.toNatClampNeg ((dc_wi m (x0 + 3) (Int32.toNatClampNeg (m.1 x0 1)) x1).1 x0 1)) x2) (x0 + 5) (Int32.toNatClampNeg ((dc_wi (dc_wi m (x0 + 3) (Int32.toNatClampNeg (m.1 x0 1)) x1) (x0 + 4) (Int32.toNatClampNeg ((dc_wi m (x0 + 3) (Int32.toNatClampNeg (m.1 x0 1)) x1).1 x0 1)) x2).1 x0 1)) x3) (x0 + 6) (Int32.toNatClampNeg ((dc_wi (dc_wi (dc_wi m (x0 + 3) (Int32.toNatClampNeg (m.1 x0 1)) x1) (x0 + 4) (Int32.toNatClampNeg ((dc_wi m (x0 + 3) (Int32.toNatClampNeg (m.1 x0 1)) x1).1 x0 1)) x2) (x0 + 5) (Int32.toNatClampNeg ((dc_wi (dc_wi m (x0 + 3) (Int32.toNatClampNeg (m.1 x0 1)) x1) (x0 + 4) (Int32.toNatClampNeg ((dc_wi m (x0 + 3) (Int32.toNatClampNeg (m.1 x0 1)) x1).1 x0 1)) x2).1 x0 1)) x3).1 x0 1)) (0 : Int32)) (x0 + 7) (Int32.toNatClampNeg ((dc_wi (dc_wi (dc_wi (dc_wi m (x0 + 3) (Int32.toNatClampNeg (m.1 x0 1)) x1) (x0 + 4) (Int32.toNatClampNeg ((dc_wi m (x0 + 3) (Int32.toNatClampNeg (m.1 x0 1)) x1).1 x0 1)) x2) (x0 + 5) (Int32.toNatClampNeg ((dc_wi (dc_wi m (x0 + 3) (Int32.toNatClampNeg (m.1 x0 1)) x1) (x0 + 4) (Int32.toNatClampNeg ((dc_wi m (x0 + 3) (Int32.toNatClampNeg (m.1 x0 1)) x1).1 x0 1)) x2).1 x0 1)) x3) (x0 + 6) (Int32.toNatClampNeg ((dc_wi (dc_wi (dc_wi m (x0 + 3) (Int32.toNatClampNeg (m.1 x0 1)) x1) (x0 + 4) (Int32.toNatClampNeg ((dc_wi m (x0 + 3) (Int32.toNatClampNeg (m.1 x0 1)) x1).1 x0 1)) x2) (x0 + 5) (Int32.toNatClampNeg ((dc_wi (dc_wi m (x0 + 3) (Int32.toNatClampNeg (m.1 x0 1)) x1) (x0 + 4) (Int32.toNatClampNeg ((dc_wi m (x0 + 3) (Int32.toNatClampNeg (m.1 x0 1)) x1).1 x0 1)) x2).1 x0 1)) x3).1 x0 1)) (0 : Int32)).1 x0 1)) (0 : Int32)).1 x0 1), .ref (x0 + 8)] rfl (fun _ => rfl) rfl ?_
    refine dg_s (pc' := 71) [.int (1 : Int32), .int ((dc_wi (dc_wi (dc_wi (dc_wi (dc_wi m (x0 + 3) (Int32.toNatClampNeg (m.1 x0 1)) x1) (x0 + 4) (Int32.toNatClampNeg ((dc_wi m (x0 + 3) (Int32.toNatClampNeg (m.1 x0 1)) x1).1 x0 1)) x2) (x0 + 5) (Int32.toNatClampNeg ((dc_wi (dc_wi m (x0 + 3) (Int32.toNatClampNeg (m.1 x0 1)) x1) (x0 + 4) (Int32.toNatClampNeg ((dc_wi m (x0 + 3) (Int32.toNatClampNeg (m.1 x0 1)) x1).1 x0 1)) x2).1 x0 1)) x3) (x0 + 6) (Int32.toNatClampNeg ((dc_wi (dc_wi (dc_wi m (x0 + 3) (Int32.toNatClampNeg (m.1 x0 1)) x1) (x0 + 4) (Int32.toNatClampNeg ((dc_wi m (x0 + 3) (Int32.toNatClampNeg (m.1 x0 1)) x1).1 x0 1)) x2) (x0 + 5) (Int32.toNatClampNeg ((dc_wi (dc_wi m (x0 + 3) (Int32.toNatClampNeg (m.1 x0 1)) x1) (x0 + 4) (Int32.toNatClampNeg ((dc_wi m (x0 + 3) (Int32.toNatClampNeg (m.1 x0 1)) x1).1 x0 1)) x2).1 x0 1)) x3).1 x0 1)) (0 : Int32)) (x0 + 7) (Int32.toNatClampNeg ((dc_wi (dc_wi (dc_wi (dc_wi m (x0 + 3) (Int32.toNatClampNeg (m.1 x0 1)) x1) (x0 + 4) (Int32.toNatClampNeg ((dc_wi m (x0 + 3) (Int32.toNatClampNeg (m.1 x0 1)) x1).1 x0 1)) x2) (x0 + 5) (Int32.toNatClampNeg ((dc_wi (dc_wi m (x0 + 3) (Int32.toNatClampNeg (m.1 x0 1)) x1) (x0 + 4) (Int32.toNatClampNeg ((dc_wi m (x0 + 3) (Int32.toNatClampNeg (m.1 x0 1)) x1).1 x0 1)) x2).1 x0 1)) x3) (x0 + 6) (Int32.toNatClampNeg ((dc_wi (dc_wi (dc_wi m (x0 + 3) (Int32.toNatClampNeg (m.1 x0 1)) x1) (x0 + 4) (Int32.toNatClampNeg ((dc_wi m (x0 + 3) (Int32.toNatClampNeg (m.1 x0 1)) x1).1 x0 1)) x2) (x0 + 5) (Int32.toNatClampNeg ((dc_wi (dc_wi m (x0 + 3) (Int32.toNatClampNeg (m.1 x0 1)) x1) (x0 + 4) (Int32.toNatClampNeg ((dc_wi m (x0 + 3) (Int32.toNatClampNeg (m.1 x0 1)) x1).1 x0 1)) x2).1 x0 1)) x3).1 x0 1)) (0 : Int32)).1 x0 1)) (0 : Int32)).1 x0 1), .ref (x0 + 8)] rfl (fun _ => rfl) rfl ?_
    refine dg_m (pc' := 72) (dc_wi (dc_wi (dc_wi (dc_wi (dc_wi (dc_wi m (x0 + 3) (Int32.toNatClampNeg (m.1 x0 1)) x1) (x0 + 4) (Int32.toNatClampNeg ((dc_wi m (x0 + 3) (Int32.toNatClampNeg (m.1 x0 1)) x1).1 x0 1)) x2) (x0 + 5) (Int32.toNatClampNeg ((dc_wi (dc_wi m (x0 + 3) (Int32.toNatClampNeg (m.1 x0 1)) x1) (x0 + 4) (Int32.toNatClampNeg ((dc_wi m (x0 + 3) (Int32.toNatClampNeg (m.1 x0 1)) x1).1 x0 1)) x2).1 x0 1)) x3) (x0 + 6) (Int32.toNatClampNeg ((dc_wi (dc_wi (dc_wi m (x0 + 3) (Int32.toNatClampNeg (m.1 x0 1)) x1) (x0 + 4) (Int32.toNatClampNeg ((dc_wi m (x0 + 3) (Int32.toNatClampNeg (m.1 x0 1)) x1).1 x0 1)) x2) (x0 + 5) (Int32.toNatClampNeg ((dc_wi (dc_wi m (x0 + 3) (Int32.toNatClampNeg (m.1 x0 1)) x1) (x0 + 4) (Int32.toNatClampNeg ((dc_wi m (x0 + 3) (Int32.toNatClampNeg (m.1 x0 1)) x1).1 x0 1)) x2).1 x0 1)) x3).1 x0 1)) (0 : Int32)) (x0 + 7) (Int32.toNatClampNeg ((dc_wi (dc_wi (dc_wi (dc_wi m (x0 + 3) (Int32.toNatClampNeg (m.1 x0 1)) x1) (x0 + 4) (Int32.toNatClampNeg ((dc_wi m (x0 + 3) (Int32.toNatClampNeg (m.1 x0 1)) x1).1 x0 1)) x2) (x0 + 5) (Int32.toNatClampNeg ((dc_wi (dc_wi m (x0 + 3) (Int32.toNatClampNeg (m.1 x0 1)) x1) (x0 + 4) (Int32.toNatClampNeg ((dc_wi m (x0 + 3) (Int32.toNatClampNeg (m.1 x0 1)) x1).1 x0 1)) x2).1 x0 1)) x3) (x0 + 6) (Int32.toNatClampNeg ((dc_wi (dc_wi (dc_wi m (x0 + 3) (Int32.toNatClampNeg (m.1 x0 1)) x1) (x0 + 4) (Int32.toNatClampNeg ((dc_wi m (x0 + 3) (Int32.toNatClampNeg (m.1 x0 1)) x1).1 x0 1)) x2) (x0 + 5) (Int32.toNatClampNeg ((dc_wi (dc_wi m (x0 + 3) (Int32.toNatClampNeg (m.1 x0 1)) x1) (x0 + 4) (Int32.toNatClampNeg ((dc_wi m (x0 + 3) (Int32.toNatClampNeg (m.1 x0 1)) x1).1 x0 1)) x2).1 x0 1)) x3).1 x0 1)) (0 : Int32)).1 x0 1)) (0 : Int32)) (x0 + 8) (Int32.toNatClampNeg ((dc_wi (dc_wi (dc_wi (dc_wi (dc_wi m (x0 + 3) (Int32.toNatClampNeg (m.1 x0 1)) x1) (x0 + 4) (Int32.toNatClampNeg ((dc_wi m (x0 + 3) (Int32.toNatClampNeg (m.1 x0 1)) x1).1 x0 1)) x2) (x0 + 5) (Int32.toNatClampNeg ((dc_wi (dc_wi m (x0 + 3) (Int32.toNatClampNeg (m.1 x0 1)) x1) (x0 + 4) (Int32.toNatClampNeg ((dc_wi m (x0 + 3) (Int32.toNatClampNeg (m.1 x0 1)) x1).1 x0 1)) x2).1 x0 1)) x3) (x0 + 6) (Int32.toNatClampNeg ((dc_wi (dc_wi (dc_wi m (x0 + 3) (Int32.toNatClampNeg (m.1 x0 1)) x1) (x0 + 4) (Int32.toNatClampNeg ((dc_wi m (x0 + 3) (Int32.toNatClampNeg (m.1 x0 1)) x1).1 x0 1)) x2) (x0 + 5) (Int32.toNatClampNeg ((dc_wi (dc_wi m (x0 + 3) (Int32.toNatClampNeg (m.1 x0 1)) x1) (x0 + 4) (Int32.toNatClampNeg ((dc_wi m (x0 + 3) (Int32.toNatClampNeg (m.1 x0 1)) x1).1 x0 1)) x2).1 x0 1)) x3).1 x0 1)) (0 : Int32)) (x0 + 7) (Int32.toNatClampNeg ((dc_wi (dc_wi (dc_wi (dc_wi m (x0 + 3) (Int32.toNatClampNeg (m.1 x0 1)) x1) (x0 + 4) (Int32.toNatClampNeg ((dc_wi m (x0 + 3) (Int32.toNatClampNeg (m.1 x0 1)) x1).1 x0 1)) x2) (x0 + 5) (Int32.toNatClampNeg ((dc_wi (dc_wi m (x0 + 3) (Int32.toNatClampNeg (m.1 x0 1)) x1) (x0 + 4) (Int32.toNatClampNeg ((dc_wi m (x0 + 3) (Int32.toNatClampNeg (m.1 x0 1)) x1).1 x0 1)) x2).1 x0 1)) x3) (x0 + 6) (Int32.toNatClampNeg ((dc_wi (dc_wi (dc_wi m (x0 + 3) (Int32.toNatClampNeg (m.1 x0 1)) x1) (x0 + 4) (Int32.toNatClampNeg ((dc_wi m (x0 + 3) (Int32.toNatClampNeg (m.1 x0 1)) x1).1 x0 1)) x2) (x0 + 5) (Int32.toNatClampNeg ((dc_wi (dc_wi m (x0 + 3) (Int32.toNatClampNeg (m.1 x0 1)) x1) (x0 + 4) (Int32.toNatClampNeg ((dc_wi m (x0 + 3) (Int32.toNatClampNeg (m.1 x0 1)) x1).1 x0 1)) x2).1 x0 1)) x3).1 x0 1)) (0 : Int32)).1 x0 1)) (0 : Int32)).1 x0 1)) (1 : Int32)) [] rfl (fun _ => rfl) rfl ?_
    refine dg_s (pc' := 73) [.ref x0] rfl (fun _ => rfl) rfl ?_
    refine dg_s (pc' := 74) [.ref x0, .ref x0] rfl (fun _ => rfl) rfl ?_
    refine dg_s (pc' := 77) [.int ((dc_wi (dc_wi (dc_wi (dc_wi (dc_wi (dc_wi m (x0 + 3) (Int32.toNatClampNeg (m.1 x0 1)) x1) (x0 + 4) (Int32.toNatClampNeg ((dc_wi m (x0 + 3) (Int32.toNatClampNeg (m.1 x0 1)) x1).1 x0 1)) x2) (x0 + 5) (Int32.toNatClampNeg ((dc_wi (dc_wi m (x0 + 3) (Int32.toNatClampNeg (m.1 x0 1)) x1) (x0 + 4) (Int32.toNatClampNeg ((dc_wi m (x0 + 3) (Int32.toNatClampNeg (m.1 x0 1)) x1).1 x0 1)) x2).1 x0 1)) x3) (x0 + 6) (Int32.toNatClampNeg ((dc_wi (dc_wi (dc_wi m (x0 + 3) (Int32.toNatClampNeg (m.1 x0 1)) x1) (x0 + 4) (Int32.toNatClampNeg ((dc_wi m (x0 + 3) (Int32.toNatClampNeg (m.1 x0 1)) x1).1 x0 1)) x2) (x0 + 5) (Int32.toNatClampNeg ((dc_wi (dc_wi m (x0 + 3) (Int32.toNatClampNeg (m.1 x0 1)) x1) (x0 + 4) (Int32.toNatClampNeg ((dc_wi m (x0 + 3) (Int32.toNatClampNeg (m.1 x0 1)) x1).1 x0 1)) x2).1 x0 1)) x3).1 x0 1)) (0 : Int32)) (x0 + 7) (Int32.toNatClampNeg ((dc_wi (dc_wi (dc_wi (dc_wi m (x0 + 3) (Int32.toNatClampNeg (m.1 x0 1)) x1) (x0 + 4) (Int32.toNatClampNeg ((dc_wi m (x0 + 3) (Int32.toNatClampNeg (m.1 x0 1)) x1).1 x0 1)) x2) (x0 + 5) (Int32.toNatClampNeg ((dc_wi (dc_wi m (x0 + 3) (Int32.toNatClampNeg (m.1 x0 1)) x1) (x0 + 4) (Int32.toNatClampNeg ((dc_wi m (x0 + 3) (Int32.toNatClampNeg (m.1 x0 1)) x1).1 x0 1)) x2).1 x0 1)) x3) (x0 + 6) (Int32.toNatClampNeg ((dc_wi (dc_wi (dc_wi m (x0 + 3) (Int32.toNatClampNeg (m.1 x0 1)) x1) (x0 + 4) (Int32.toNatClampNeg ((dc_wi m (x0 + 3) (Int32.toNatClampNeg (m.1 x0 1)) x1).1 x0 1)) x2) (x0 + 5) (Int32.toNatClampNeg ((dc_wi (dc_wi m (x0 + 3) (Int32.toNatClampNeg (m.1 x0 1)) x1) (x0 + 4) (Int32.toNatClampNeg ((dc_wi m (x0 + 3) (Int32.toNatClampNeg (m.1 x0 1)) x1).1 x0 1)) x2).1 x0 1)) x3).1 x0 1)) (0 : Int32)).1 x0 1)) (0 : Int32)) (x0 + 8) (Int32.toNatClampNeg ((dc_wi (dc_wi (dc_wi (dc_wi (dc_wi m (x0 + 3) (Int32.toNatClampNeg (m.1 x0 1)) x1) (x0 + 4) (Int32.toNatClampNeg ((dc_wi m (x0 + 3) (Int32.toNatClampNeg (m.1 x0 1)) x1).1 x0 1)) x2) (x0 + 5) (Int32.toNatClampNeg ((dc_wi (dc_wi m (x0 + 3) (Int32.toNatClampNeg (m.1 x0 1)) x1) (x0 + 4) (Int32.toNatClampNeg ((dc_wi m (x0 + 3) (Int32.toNatClampNeg (m.1 x0 1)) x1).1 x0 1)) x2).1 x0 1)) x3) (x0 + 6) (Int32.toNatClampNeg ((dc_wi (dc_wi (dc_wi m (x0 + 3) (Int32.toNatClampNeg (m.1 x0 1)) x1) (x0 + 4) (Int32.toNatClampNeg ((dc_wi m (x0 + 3) (Int32.toNatClampNeg (m.1 x0 1)) x1).1 x0 1)) x2) (x0 + 5) (Int32.toNatClampNeg ((dc_wi (dc_wi m (x0 + 3) (Int32.toNatClampNeg (m.1 x0 1)) x1) (x0 + 4) (Int32.toNatClampNeg ((dc_wi m (x0 + 3) (Int32.toNatClampNeg (m.1 x0 1)) x1).1 x0 1)) x2).1 x0 1)) x3).1 x0 1)) (0 : Int32)) (x0 + 7) (Int32.toNatClampNeg ((dc_wi (dc_wi (dc_wi (dc_wi m (x0 + 3) (Int32.toNatClampNeg (m.1 x0 1)) x1) (x0 + 4) (Int32.toNatClampNeg ((dc_wi m (x0 + 3) (Int32.toNatClampNeg (m.1 x0 1)) x1).1 x0 1)) x2) (x0 + 5) (Int32.toNatClampNeg ((dc_wi (dc_wi m (x0 + 3) (Int32.toNatClampNeg (m.1 x0 1)) x1) (x0 + 4) (Int32.toNatClampNeg ((dc_wi m (x0 + 3) (Int32.toNatClampNeg (m.1 x0 1)) x1).1 x0 1)) x2).1 x0 1)) x3) (x0 + 6) (Int32.toNatClampNeg ((dc_wi (dc_wi (dc_wi m (x0 + 3) (Int32.toNatClampNeg (m.1 x0 1)) x1) (x0 + 4) (Int32.toNatClampNeg ((dc_wi m (x0 + 3) (Int32.toNatClampNeg (m.1 x0 1)) x1).1 x0 1)) x2) (x0 + 5) (Int32.toNatClampNeg ((dc_wi (dc_wi m (x0 + 3) (Int32.toNatClampNeg (m.1 x0 1)) x1) (x0 + 4) (Int32.toNatClampNeg ((dc_wi m (x0 + 3) (Int32.toNatClampNeg (m.1 x0 1)) x1).1 x0 1)) x2).1 x0 1)) x3).1 x0 1)) (0 : Int32)).1 x0 1)) (0 : Int32)).1 x0 1)) (1 : Int32)).1 x0 1), .ref x0] rfl (fun _ => rfl) rfl ?_
    refine dg_s (pc' := 78) [.int ((dc_wi (dc_wi (dc_wi (dc_wi (dc_wi (dc_wi m (x0 + 3) (Int32.toNatClampNeg (m.1 x0 1)) x1) (x0 + 4) (Int32.toNatClampNeg ((dc_wi m (x0 + 3) (Int32.toNatClampNeg (m.1 x0 1)) x1).1 x0 1)) x2) (x0 + 5) (Int32.toNatClampNeg ((dc_wi (dc_wi m (x0 + 3) (Int32.toNatClampNeg (m.1 x0 1)) x1) (x0 + 4) (Int32.toNatClampNeg ((dc_wi m (x0 + 3) (Int32.toNatClampNeg (m.1 x0 1)) x1).1 x0 1)) x2).1 x0 1)) x3) (x0 + 6) (Int32.toNatClampNeg ((dc_wi (dc_wi (dc_wi m (x0 + 3) (Int32.toNatClampNeg (m.1 x0 1)) x1) (x0 + 4) (Int32.toNatClampNeg ((dc_wi m (x0 + 3) (Int32.toNatClampNeg (m.1 x0 1)) x1).1 x0 1)) x2) (x0 + 5) (Int32.toNatClampNeg ((dc_wi (dc_wi m (x0 + 3) (Int32.toNatClampNeg (m.1 x0 1)) x1) (x0 + 4) (Int32.toNatClampNeg ((dc_wi m (x0 + 3) (Int32.toNatClampNeg (m.1 x0 1)) x1).1 x0 1)) x2).1 x0 1)) x3).1 x0 1)) (0 : Int32)) (x0 + 7) (Int32.toNatClampNeg ((dc_wi (dc_wi (dc_wi (dc_wi m (x0 + 3) (Int32.toNatClampNeg (m.1 x0 1)) x1) (x0 + 4) (Int32.toNatClampNeg ((dc_wi m (x0 + 3) (Int32.toNatClampNeg (m.1 x0 1)) x1).1 x0 1)) x2) (x0 + 5) (Int32.toNatClampNeg ((dc_wi (dc_wi m (x0 + 3) (Int32.toNatClampNeg (m.1 x0 1)) x1) (x0 + 4) (Int32.toNatClampNeg ((dc_wi m (x0 + 3) (Int32.toNatClampNeg (m.1 x0 1)) x1).1 x0 1)) x2).1 x0 1)) x3) (x0 + 6) (Int32.toNatClampNeg ((dc_wi (dc_wi (dc_wi m (x0 + 3) (Int32.toNatClampNeg (m.1 x0 1)) x1) (x0 + 4) (Int32.toNatClampNeg ((dc_wi m (x0 + 3) (Int32.toNatClampNeg (m.1 x0 1)) x1).1 x0 1)) x2) (x0 + 5) (Int32.toNatClampNeg ((dc_wi (dc_wi m (x0 + 3) (Int32.toNatClampNeg (m.1 x0 1)) x1) (x0 + 4) (Int32.toNatClampNeg ((dc_wi m (x0 + 3) (Int32.toNatClampNeg (m.1 x0 1)) x1).1 x0 1)) x2).1 x0 1)) x3).1 x0 1)) (0 : Int32)).1 x0 1)) (0 : Int32)) (x0 + 8) (Int32.toNatClampNeg ((dc_wi (dc_wi (dc_wi (dc_wi (dc_wi m (x0 + 3) (Int32.toNatClampNeg (m.1 x0 1)) x1) (x0 + 4) (Int32.toNatClampNeg ((dc_wi m (x0 + 3) (Int32.toNatClampNeg (m.1 x0 1)) x1).1 x0 1)) x2) (x0 + 5) (Int32.toNatClampNeg ((dc_wi (dc_wi m (x0 + 3) (Int32.toNatClampNeg (m.1 x0 1)) x1) (x0 + 4) (Int32.toNatClampNeg ((dc_wi m (x0 + 3) (Int32.toNatClampNeg (m.1 x0 1)) x1).1 x0 1)) x2).1 x0 1)) x3) (x0 + 6) (Int32.toNatClampNeg ((dc_wi (dc_wi (dc_wi m (x0 + 3) (Int32.toNatClampNeg (m.1 x0 1)) x1) (x0 + 4) (Int32.toNatClampNeg ((dc_wi m (x0 + 3) (Int32.toNatClampNeg (m.1 x0 1)) x1).1 x0 1)) x2) (x0 + 5) (Int32.toNatClampNeg ((dc_wi (dc_wi m (x0 + 3) (Int32.toNatClampNeg (m.1 x0 1)) x1) (x0 + 4) (Int32.toNatClampNeg ((dc_wi m (x0 + 3) (Int32.toNatClampNeg (m.1 x0 1)) x1).1 x0 1)) x2).1 x0 1)) x3).1 x0 1)) (0 : Int32)) (x0 + 7) (Int32.toNatClampNeg ((dc_wi (dc_wi (dc_wi (dc_wi m (x0 + 3) (Int32.toNatClampNeg (m.1 x0 1)) x1) (x0 + 4) (Int32.toNatClampNeg ((dc_wi m (x0 + 3) (Int32.toNatClampNeg (m.1 x0 1)) x1).1 x0 1)) x2) (x0 + 5) (Int32.toNatClampNeg ((dc_wi (dc_wi m (x0 + 3) (Int32.toNatClampNeg (m.1 x0 1)) x1) (x0 + 4) (Int32.toNatClampNeg ((dc_wi m (x0 + 3) (Int32.toNatClampNeg (m.1 x0 1)) x1).1 x0 1)) x2).1 x0 1)) x3) (x0 + 6) (Int32.toNatClampNeg ((dc_wi (dc_wi (dc_wi m (x0 + 3) (Int32.toNatClampNeg (m.1 x0 1)) x1) (x0 + 4) (Int32.toNatClampNeg ((dc_wi m (x0 + 3) (Int32.toNatClampNeg (m.1 x0 1)) x1).1 x0 1)) x2) (x0 + 5) (Int32.toNatClampNeg ((dc_wi (dc_wi m (x0 + 3) (Int32.toNatClampNeg (m.1 x0 1)) x1) (x0 + 4) (Int32.toNatClampNeg ((dc_wi m (x0 + 3) (Int32.toNatClampNeg (m.1 x0 1)) x1).1 x0 1)) x2).1 x0 1)) x3).1 x0 1)) (0 : Int32)).1 x0 1)) (0 : Int32)).1 x0 1)) (1 : Int32)).1 x0 1), .ref x0, .int ((dc_wi (dc_wi (dc_wi (dc_wi (dc_wi (dc_wi m (x0 + 3) (Int32.toNatClampNeg (m.1 x0 1)) x1) (x0 + 4) (Int32.toNatClampNeg ((dc_wi m (x0 + 3) (Int32.toNatClampNeg (m.1 x0 1)) x1).1 x0 1)) x2) (x0 + 5) (Int32.toNatClampNeg ((dc_wi (dc_wi m (x0 + 3) (Int32.toNatClampNeg (m.1 x0 1)) x1) (x0 + 4) (Int32.toNatClampNeg ((dc_wi m (x0 + 3) (Int32.toNatClampNeg (m.1 x0 1)) x1).1 x0 1)) x2).1 x0 1)) x3) (x0 + 6) (Int32.toNatClampNeg ((dc_wi (dc_wi (dc_wi m (x0 + 3) (Int32.toNatClampNeg (m.1 x0 1)) x1) (x0 + 4) (Int32.toNatClampNeg ((dc_wi m (x0 + 3) (Int32.toNatClampNeg (m.1 x0 1)) x1).1 x0 1)) x2) (x0 + 5) (Int32.toNatClampNeg ((dc_wi (dc_wi m (x0 + 3) (Int32.toNatClampNeg (m.1 x0 1)) x1) (x0 + 4) (Int32.toNatClampNeg ((dc_wi m (x0 + 3) (Int32.toNatClampNeg (m.1 x0 1)) x1).1 x0 1)) x2).1 x0 1)) x3).1 x0 1)) (0 : Int32)) (x0 + 7) (Int32.toNatClampNeg ((dc_wi (dc_wi (dc_wi (dc_wi m (x0 + 3) (Int32.toNatClampNeg (m.1 x0 1)) x1) (x0 + 4) (Int32.toNatClampNeg ((dc_wi m (x0 + 3) (Int32.toNatClampNeg (m.1 x0 1)) x1).1 x0 1)) x2) (x0 + 5) (Int32.toNatClampNeg ((dc_wi (dc_wi m (x0 + 3) (Int32.toNatClampNeg (m.1 x0 1)) x1) (x0 + 4) (Int32.toNatClampNeg ((dc_wi m (x0 + 3) (Int32.toNatClampNeg (m.1 x0 1)) x1).1 x0 1)) x2).1 x0 1)) x3) (x0 + 6) (Int32.toNatClampNeg ((dc_wi (dc_wi (dc_wi m (x0 + 3) (Int32.toNatClampNeg (m.1 x0 1)) x1) (x0 + 4) (Int32.toNatClampNeg ((dc_wi m (x0 + 3) (Int32.toNatClampNeg (m.1 x0 1)) x1).1 x0 1)) x2) (x0 + 5) (Int32.toNatClampNeg ((dc_wi (dc_wi m (x0 + 3) (Int32.toNatClampNeg (m.1 x0 1)) x1) (x0 + 4) (Int32.toNatClampNeg ((dc_wi m (x0 + 3) (Int32.toNatClampNeg (m.1 x0 1)) x1).1 x0 1)) x2).1 x0 1)) x3).1 x0 1)) (0 : Int32)).1 x0 1)) (0 : Int32)) (x0 + 8) (Int32.toNatClampNeg ((dc_wi (dc_wi (dc_wi (dc_wi (dc_wi m (x0 + 3) (Int32.toNatClampNeg (m.1 x0 1)) x1) (x0 + 4) (Int32.toNatClampNeg ((dc_wi m (x0 + 3) (Int32.toNatClampNeg (m.1 x0 1)) x1).1 x0 1)) x2) (x0 + 5) (Int32.toNatClampNeg ((dc_wi (dc_wi m (x0 + 3) (Int32.toNatClampNeg (m.1 x0 1)) x1) (x0 + 4) (Int32.toNatClampNeg ((dc_wi m (x0 + 3) (Int32.toNatClampNeg (m.1 x0 1)) x1).1 x0 1)) x2).1 x0 1)) x3) (x0 + 6) (Int32.toNatClampNeg ((dc_wi (dc_wi (dc_wi m (x0 + 3) (Int32.toNatClampNeg (m.1 x0 1)) x1) (x0 + 4) (Int32.toNatClampNeg ((dc_wi m (x0 + 3) (Int32.toNatClampNeg (m.1 x0 1)) x1).1 x0 1)) x2) (x0 + 5) (Int32.toNatClampNeg ((dc_wi (dc_wi m (x0 + 3) (Int32.toNatClampNeg (m.1 x0 1)) x1) (x0 + 4) (Int32.toNatClampNeg ((dc_wi m (x0 + 3) (Int32.toNatClampNeg (m.1 x0 1)) x1).1 x0 1)) x2).1 x0 1)) x3).1 x0 1)) (0 : Int32)) (x0 + 7) (Int32.toNatClampNeg ((dc_wi (dc_wi (dc_wi (dc_wi m (x0 + 3) (Int32.toNatClampNeg (m.1 x0 1)) x1) (x0 + 4) (Int32.toNatClampNeg ((dc_wi m (x0 + 3) (Int32.toNatClampNeg (m.1 x0 1)) x1).1 x0 1)) x2) (x0 + 5) (Int32.toNatClampNeg ((dc_wi (dc_wi m (x0 + 3) (Int32.toNatClampNeg (m.1 x0 1)) x1) (x0 + 4) (Int32.toNatClampNeg ((dc_wi m (x0 + 3) (Int32.toNatClampNeg (m.1 x0 1)) x1).1 x0 1)) x2).1 x0 1)) x3) (x0 + 6) (Int32.toNatClampNeg ((dc_wi (dc_wi (dc_wi m (x0 + 3) (Int32.toNatClampNeg (m.1 x0 1)) x1) (x0 + 4) (Int32.toNatClampNeg ((dc_wi m (x0 + 3) (Int32.toNatClampNeg (m.1 x0 1)) x1).1 x0 1)) x2) (x0 + 5) (Int32.toNatClampNeg ((dc_wi (dc_wi m (x0 + 3) (Int32.toNatClampNeg (m.1 x0 1)) x1) (x0 + 4) (Int32.toNatClampNeg ((dc_wi m (x0 + 3) (Int32.toNatClampNeg (m.1 x0 1)) x1).1 x0 1)) x2).1 x0 1)) x3).1 x0 1)) (0 : Int32)).1 x0 1)) (0 : Int32)).1 x0 1)) (1 : Int32)).1 x0 1)] rfl (fun _ => rfl) rfl ?_
    refine dg_s (pc' := 79) [.int (1 : Int32), .int ((dc_wi (dc_wi (dc_wi (dc_wi (dc_wi (dc_wi m (x0 + 3) (Int32.toNatClampNeg (m.1 x0 1)) x1) (x0 + 4) (Int32.toNatClampNeg ((dc_wi m (x0 + 3) (Int32.toNatClampNeg (m.1 x0 1)) x1).1 x0 1)) x2) (x0 + 5) (Int32.toNatClampNeg ((dc_wi (dc_wi m (x0 + 3) (Int32.toNatClampNeg (m.1 x0 1)) x1) (x0 + 4) (Int32.toNatClampNeg ((dc_wi m (x0 + 3) (Int32.toNatClampNeg (m.1 x0 1)) x1).1 x0 1)) x2).1 x0 1)) x3) (x0 + 6) (Int32.toNatClampNeg ((dc_wi (dc_wi (dc_wi m (x0 + 3) (Int32.toNatClampNeg (m.1 x0 1)) x1) (x0 + 4) (Int32.toNatClampNeg ((dc_wi m (x0 + 3) (Int32.toNatClampNeg (m.1 x0 1)) x1).1 x0 1)) x2) (x0 + 5) (Int32.toNatClampNeg ((dc_wi (dc_wi m (x0 + 3) (Int32.toNatClampNeg (m.1 x0 1)) x1) (x0 + 4) (Int32.toNatClampNeg ((dc_wi m (x0 + 3) (Int32.toNatClampNeg (m.1 x0 1)) x1).1 x0 1)) x2).1 x0 1)) x3).1 x0 1)) (0 : Int32)) (x0 + 7) (Int32.toNatClampNeg ((dc_wi (dc_wi (dc_wi (dc_wi m (x0 + 3) (Int32.toNatClampNeg (m.1 x0 1)) x1) (x0 + 4) (Int32.toNatClampNeg ((dc_wi m (x0 + 3) (Int32.toNatClampNeg (m.1 x0 1)) x1).1 x0 1)) x2) (x0 + 5) (Int32.toNatClampNeg ((dc_wi (dc_wi m (x0 + 3) (Int32.toNatClampNeg (m.1 x0 1)) x1) (x0 + 4) (Int32.toNatClampNeg ((dc_wi m (x0 + 3) (Int32.toNatClampNeg (m.1 x0 1)) x1).1 x0 1)) x2).1 x0 1)) x3) (x0 + 6) (Int32.toNatClampNeg ((dc_wi (dc_wi (dc_wi m (x0 + 3) (Int32.toNatClampNeg (m.1 x0 1)) x1) (x0 + 4) (Int32.toNatClampNeg ((dc_wi m (x0 + 3) (Int32.toNatClampNeg (m.1 x0 1)) x1).1 x0 1)) x2) (x0 + 5) (Int32.toNatClampNeg ((dc_wi (dc_wi m (x0 + 3) (Int32.toNatClampNeg (m.1 x0 1)) x1) (x0 + 4) (Int32.toNatClampNeg ((dc_wi m (x0 + 3) (Int32.toNatClampNeg (m.1 x0 1)) x1).1 x0 1)) x2).1 x0 1)) x3).1 x0 1)) (0 : Int32)).1 x0 1)) (0 : Int32)) (x0 + 8) (Int32.toNatClampNeg ((dc_wi (dc_wi (dc_wi (dc_wi (dc_wi m (x0 + 3) (Int32.toNatClampNeg (m.1 x0 1)) x1) (x0 + 4) (Int32.toNatClampNeg ((dc_wi m (x0 + 3) (Int32.toNatClampNeg (m.1 x0 1)) x1).1 x0 1)) x2) (x0 + 5) (Int32.toNatClampNeg ((dc_wi (dc_wi m (x0 + 3) (Int32.toNatClampNeg (m.1 x0 1)) x1) (x0 + 4) (Int32.toNatClampNeg ((dc_wi m (x0 + 3) (Int32.toNatClampNeg (m.1 x0 1)) x1).1 x0 1)) x2).1 x0 1)) x3) (x0 + 6) (Int32.toNatClampNeg ((dc_wi (dc_wi (dc_wi m (x0 + 3) (Int32.toNatClampNeg (m.1 x0 1)) x1) (x0 + 4) (Int32.toNatClampNeg ((dc_wi m (x0 + 3) (Int32.toNatClampNeg (m.1 x0 1)) x1).1 x0 1)) x2) (x0 + 5) (Int32.toNatClampNeg ((dc_wi (dc_wi m (x0 + 3) (Int32.toNatClampNeg (m.1 x0 1)) x1) (x0 + 4) (Int32.toNatClampNeg ((dc_wi m (x0 + 3) (Int32.toNatClampNeg (m.1 x0 1)) x1).1 x0 1)) x2).1 x0 1)) x3).1 x0 1)) (0 : Int32)) (x0 + 7) (Int32.toNatClampNeg ((dc_wi (dc_wi (dc_wi (dc_wi m (x0 + 3) (Int32.toNatClampNeg (m.1 x0 1)) x1) (x0 + 4) (Int32.toNatClampNeg ((dc_wi m (x0 + 3) (Int32.toNatClampNeg (m.1 x0 1)) x1).1 x0 1)) x2) (x0 + 5) (Int32.toNatClampNeg ((dc_wi (dc_wi m (x0 + 3) (Int32.toNatClampNeg (m.1 x0 1)) x1) (x0 + 4) (Int32.toNatClampNeg ((dc_wi m (x0 + 3) (Int32.toNatClampNeg (m.1 x0 1)) x1).1 x0 1)) x2).1 x0 1)) x3) (x0 + 6) (Int32.toNatClampNeg ((dc_wi (dc_wi (dc_wi m (x0 + 3) (Int32.toNatClampNeg (m.1 x0 1)) x1) (x0 + 4) (Int32.toNatClampNeg ((dc_wi m (x0 + 3) (Int32.toNatClampNeg (m.1 x0 1)) x1).1 x0 1)) x2) (x0 + 5) (Int32.toNatClampNeg ((dc_wi (dc_wi m (x0 + 3) (Int32.toNatClampNeg (m.1 x0 1)) x1) (x0 + 4) (Int32.toNatClampNeg ((dc_wi m (x0 + 3) (Int32.toNatClampNeg (m.1 x0 1)) x1).1 x0 1)) x2).1 x0 1)) x3).1 x0 1)) (0 : Int32)).1 x0 1)) (0 : Int32)).1 x0 1)) (1 : Int32)).1 x0 1), .ref x0, .int ((dc_wi (dc_wi (dc_wi (dc_wi (dc_wi (dc_wi m (x0 + 3) (Int32.toNatClampNeg (m.1 x0 1)) x1) (x0 + 4) (Int32.toNatClampNeg ((dc_wi m (x0 + 3) (Int32.toNatClampNeg (m.1 x0 1)) x1).1 x0 1)) x2) (x0 + 5) (Int32.toNatClampNeg ((dc_wi (dc_wi m (x0 + 3) (Int32.toNatClampNeg (m.1 x0 1)) x1) (x0 + 4) (Int32.toNatClampNeg ((dc_wi m (x0 + 3) (Int32.toNatClampNeg (m.1 x0 1)) x1).1 x0 1)) x2).1 x0 1)) x3) (x0 + 6) (Int32.toNatClampNeg ((dc_wi (dc_wi (dc_wi m (x0 + 3) (Int32.toNatClampNeg (m.1 x0 1)) x1) (x0 + 4) (Int32.toNatClampNeg ((dc_wi m (x0 + 3) (Int32.toNatClampNeg (m.1 x0 1)) x1).1 x0 1)) x2) (x0 + 5) (Int32.toNatClampNeg ((dc_wi (dc_wi m (x0 + 3) (Int32.toNatClampNeg (m.1 x0 1)) x1) (x0 + 4) (Int32.toNatClampNeg ((dc_wi m (x0 + 3) (Int32.toNatClampNeg (m.1 x0 1)) x1).1 x0 1)) x2).1 x0 1)) x3).1 x0 1)) (0 : Int32)) (x0 + 7) (Int32.toNatClampNeg ((dc_wi (dc_wi (dc_wi (dc_wi m (x0 + 3) (Int32.toNatClampNeg (m.1 x0 1)) x1) (x0 + 4) (Int32.toNatClampNeg ((dc_wi m (x0 + 3) (Int32.toNatClampNeg (m.1 x0 1)) x1).1 x0 1)) x2) (x0 + 5) (Int32.toNatClampNeg ((dc_wi (dc_wi m (x0 + 3) (Int32.toNatClampNeg (m.1 x0 1)) x1) (x0 + 4) (Int32.toNatClampNeg ((dc_wi m (x0 + 3) (Int32.toNatClampNeg (m.1 x0 1)) x1).1 x0 1)) x2).1 x0 1)) x3) (x0 + 6) (Int32.toNatClampNeg ((dc_wi (dc_wi (dc_wi m (x0 + 3) (Int32.toNatClampNeg (m.1 x0 1)) x1) (x0 + 4) (Int32.toNatClampNeg ((dc_wi m (x0 + 3) (Int32.toNatClampNeg (m.1 x0 1)) x1).1 x0 1)) x2) (x0 + 5) (Int32.toNatClampNeg ((dc_wi (dc_wi m (x0 + 3) (Int32.toNatClampNeg (m.1 x0 1)) x1) (x0 + 4) (Int32.toNatClampNeg ((dc_wi m (x0 + 3) (Int32.toNatClampNeg (m.1 x0 1)) x1).1 x0 1)) x2).1 x0 1)) x3).1 x0 1)) (0 : Int32)).1 x0 1)) (0 : Int32)) (x0 + 8) (Int32.toNatClampNeg ((dc_wi (dc_wi (dc_wi (dc_wi (dc_wi m (x0 + 3) (Int32.toNatClampNeg (m.1 x0 1)) x1) (x0 + 4) (Int32.toNatClampNeg ((dc_wi m (x0 + 3) (Int32.toNatClampNeg (m.1 x0 1)) x1).1 x0 1)) x2) (x0 + 5) (Int32.toNatClampNeg ((dc_wi (dc_wi m (x0 + 3) (Int32.toNatClampNeg (m.1 x0 1)) x1) (x0 + 4) (Int32.toNatClampNeg ((dc_wi m (x0 + 3) (Int32.toNatClampNeg (m.1 x0 1)) x1).1 x0 1)) x2).1 x0 1)) x3) (x0 + 6) (Int32.toNatClampNeg ((dc_wi (dc_wi (dc_wi m (x0 + 3) (Int32.toNatClampNeg (m.1 x0 1)) x1) (x0 + 4) (Int32.toNatClampNeg ((dc_wi m (x0 + 3) (Int32.toNatClampNeg (m.1 x0 1)) x1).1 x0 1)) x2) (x0 + 5) (Int32.toNatClampNeg ((dc_wi (dc_wi m (x0 + 3) (Int32.toNatClampNeg (m.1 x0 1)) x1) (x0 + 4) (Int32.toNatClampNeg ((dc_wi m (x0 + 3) (Int32.toNatClampNeg (m.1 x0 1)) x1).1 x0 1)) x2).1 x0 1)) x3).1 x0 1)) (0 : Int32)) (x0 + 7) (Int32.toNatClampNeg ((dc_wi (dc_wi (dc_wi (dc_wi m (x0 + 3) (Int32.toNatClampNeg (m.1 x0 1)) x1) (x0 + 4) (Int32.toNatClampNeg ((dc_wi m (x0 + 3) (Int32.toNatClampNeg (m.1 x0 1)) x1).1 x0 1)) x2) (x0 + 5) (Int32.toNatClampNeg ((dc_wi (dc_wi m (x0 + 3) (Int32.toNatClampNeg (m.1 x0 1)) x1) (x0 + 4) (Int32.toNatClampNeg ((dc_wi m (x0 + 3) (Int32.toNatClampNeg (m.1 x0 1)) x1).1 x0 1)) x2).1 x0 1)) x3) (x0 + 6) (Int32.toNatClampNeg ((dc_wi (dc_wi (dc_wi m (x0 + 3) (Int32.toNatClampNeg (m.1 x0 1)) x1) (x0 + 4) (Int32.toNatClampNeg ((dc_wi m (x0 + 3) (Int32.toNatClampNeg (m.1 x0 1)) x1).1 x0 1)) x2) (x0 + 5) (Int32.toNatClampNeg ((dc_wi (dc_wi m (x0 + 3) (Int32.toNatClampNeg (m.1 x0 1)) x1) (x0 + 4) (Int32.toNatClampNeg ((dc_wi m (x0 + 3) (Int32.toNatClampNeg (m.1 x0 1)) x1).1 x0 1)) x2).1 x0 1)) x3).1 x0 1)) (0 : Int32)).1 x0 1)) (0 : Int32)).1 x0 1)) (1 : Int32)).1 x0 1)] rfl (fun _ => rfl) rfl ?_
    refine dg_s (pc' := 80) [.int (((dc_wi (dc_wi (dc_wi (dc_wi (dc_wi (dc_wi m (x0 + 3) (Int32.toNatClampNeg (m.1 x0 1)) x1) (x0 + 4) (Int32.toNatClampNeg ((dc_wi m (x0 + 3) (Int32.toNatClampNeg (m.1 x0 1)) x1).1 x0 1)) x2) (x0 + 5) (Int32.toNatClampNeg ((dc_wi (dc_wi m (x0 + 3) (Int32.toNatClampNeg (m.1 x0 1)) x1) (x0 + 4) (Int32.toNatClampNeg ((dc_wi m (x0 + 3) (Int32.toNatClampNeg (m.1 x0 1)) x1).1 x0 1)) x2).1 x0 1)) x3) (x0 + 6) (Int32.toNatClampNeg ((dc_wi (dc_wi (dc_wi m (x0 + 3) (Int32.toNatClampNeg (m.1 x0 1)) x1) (x0 + 4) (Int32.toNatClampNeg ((dc_wi m (x0 + 3) (Int32.toNatClampNeg (m.1 x0 1)) x1).1 x0 1)) x2) (x0 + 5) (Int32.toNatClampNeg ((dc_wi (dc_wi m (x0 + 3) (Int32.toNatClampNeg (m.1 x0 1)) x1) (x0 + 4) (Int32.toNatClampNeg ((dc_wi m (x0 + 3) (Int32.toNatClampNeg (m.1 x0 1)) x1).1 x0 1)) x2).1 x0 1)) x3).1 x0 1)) (0 : Int32)) (x0 + 7) (Int32.toNatClampNeg ((dc_wi (dc_wi (dc_wi (dc_wi m (x0 + 3) (Int32.toNatClampNeg (m.1 x0 1)) x1) (x0 + 4) (Int32.toNatClampNeg ((dc_wi m (x0 + 3) (Int32.toNatClampNeg (m.1 x0 1)) x1).1 x0 1)) x2) (x0 + 5) (Int32.toNatClampNeg ((dc_wi (dc_wi m (x0 + 3) (Int32.toNatClampNeg (m.1 x0 1)) x1) (x0 + 4) (Int32.toNatClampNeg ((dc_wi m (x0 + 3) (Int32.toNatClampNeg (m.1 x0 1)) x1).1 x0 1)) x2).1 x0 1)) x3) (x0 + 6) (Int32.toNatClampNeg ((dc_wi (dc_wi (dc_wi m (x0 + 3) (Int32.toNatClampNeg (m.1 x0 1)) x1) (x0 + 4) (Int32.toNatClampNeg ((dc_wi m (x0 + 3) (Int32.toNatClampNeg (m.1 x0 1)) x1).1 x0 1)) x2) (x0 + 5) (Int32.toNatClampNeg ((dc_wi (dc_wi m (x0 + 3) (Int32.toNatClampNeg (m.1 x0 1)) x1) (x0 + 4) (Int32.toNatClampNeg ((dc_wi m (x0 + 3) (Int32.toNatClampNeg (m.1 x0 1)) x1).1 x0 1)) x2).1 x0 1)) x3).1 x0 1)) (0 : Int32)).1 x0 1)) (0 : Int32)) (x0 + 8) (Int32.toNatClampNeg ((dc_wi (dc_wi (dc_wi (dc_wi (dc_wi m (x0 + 3) (Int32.toNatClampNeg (m.1 x0 1)) x1) (x0 + 4) (Int32.toNatClampNeg ((dc_wi m (x0 + 3) (Int32.toNatClampNeg (m.1 x0 1)) x1).1 x0 1)) x2) (x0 + 5) (Int32.toNatClampNeg ((dc_wi (dc_wi m (x0 + 3) (Int32.toNatClampNeg (m.1 x0 1)) x1) (x0 + 4) (Int32.toNatClampNeg ((dc_wi m (x0 + 3) (Int32.toNatClampNeg (m.1 x0 1)) x1).1 x0 1)) x2).1 x0 1)) x3) (x0 + 6) (Int32.toNatClampNeg ((dc_wi (dc_wi (dc_wi m (x0 + 3) (Int32.toNatClampNeg (m.1 x0 1)) x1) (x0 + 4) (Int32.toNatClampNeg ((dc_wi m (x0 + 3) (Int32.toNatClampNeg (m.1 x0 1)) x1).1 x0 1)) x2) (x0 + 5) (Int32.toNatClampNeg ((dc_wi (dc_wi m (x0 + 3) (Int32.toNatClampNeg (m.1 x0 1)) x1) (x0 + 4) (Int32.toNatClampNeg ((dc_wi m (x0 + 3) (Int32.toNatClampNeg (m.1 x0 1)) x1).1 x0 1)) x2).1 x0 1)) x3).1 x0 1)) (0 : Int32)) (x0 + 7) (Int32.toNatClampNeg ((dc_wi (dc_wi (dc_wi (dc_wi m (x0 + 3) (Int32.toNatClampNeg (m.1 x0 1)) x1) (x0 + 4) (Int32.toNatClampNeg ((dc_wi m (x0 + 3) (Int32.toNatClampNeg (m.1 x0 1)) x1).1 x0 1)) x2) (x0 + 5) (Int32.toNatClampNeg ((dc_wi (dc_wi m (x0 + 3) (Int32.toNatClampNeg (m.1 x0 1)) x1) (x0 + 4) (Int32.toNatClampNeg ((dc_wi m (x0 + 3) (Int32.toNatClampNeg (m.1 x0 1)) x1).1 x0 1)) x2).1 x0 1)) x3) (x0 + 6) (Int32.toNatClampNeg ((dc_wi (dc_wi (dc_wi m (x0 + 3) (Int32.toNatClampNeg (m.1 x0 1)) x1) (x0 + 4) (Int32.toNatClampNeg ((dc_wi m (x0 + 3) (Int32.toNatClampNeg (m.1 x0 1)) x1).1 x0 1)) x2) (x0 + 5) (Int32.toNatClampNeg ((dc_wi (dc_wi m (x0 + 3) (Int32.toNatClampNeg (m.1 x0 1)) x1) (x0 + 4) (Int32.toNatClampNeg ((dc_wi m (x0 + 3) (Int32.toNatClampNeg (m.1 x0 1)) x1).1 x0 1)) x2).1 x0 1)) x3).1 x0 1)) (0 : Int32)).1 x0 1)) (0 : Int32)).1 x0 1)) (1 : Int32)).1 x0 1) + (1 : Int32)), .ref x0, .int ((dc_wi (dc_wi (dc_wi (dc_wi (dc_wi (dc_wi m (x0 + 3) (Int32.toNatClampNeg (m.1 x0 1)) x1) (x0 + 4) (Int32.toNatClampNeg ((dc_wi m (x0 + 3) (Int32.toNatClampNeg (m.1 x0 1)) x1).1 x0 1)) x2) (x0 + 5) (Int32.toNatClampNeg ((dc_wi (dc_wi m (x0 + 3) (Int32.toNatClampNeg (m.1 x0 1)) x1) (x0 + 4) (Int32.toNatClampNeg ((dc_wi m (x0 + 3) (Int32.toNatClampNeg (m.1 x0 1)) x1).1 x0 1)) x2).1 x0 1)) x3) (x0 + 6) (Int32.toNatClampNeg ((dc_wi (dc_wi (dc_wi m (x0 + 3) (Int32.toNatClampNeg (m.1 x0 1)) x1) (x0 + 4) (Int32.toNatClampNeg ((dc_wi m (x0 + 3) (Int32.toNatClampNeg (m.1 x0 1)) x1).1 x0 1)) x2) (x0 + 5) (Int32.toNatClampNeg ((dc_wi (dc_wi m (x0 + 3) (Int32.toNatClampNeg (m.1 x0 1)) x1) (x0 + 4) (Int32.toNatClampNeg ((dc_wi m (x0 + 3) (Int32.toNatClampNeg (m.1 x0 1)) x1).1 x0 1)) x2).1 x0 1)) x3).1 x0 1)) (0 : Int32)) (x0 + 7) (Int32.toNatClampNeg ((dc_wi (dc_wi (dc_wi (dc_wi m (x0 + 3) (Int32.toNatClampNeg (m.1 x0 1)) x1) (x0 + 4) (Int32.toNatClampNeg ((dc_wi m (x0 + 3) (Int32.toNatClampNeg (m.1 x0 1)) x1).1 x0 1)) x2) (x0 + 5) (Int32.toNatClampNeg ((dc_wi (dc_wi m (x0 + 3) (Int32.toNatClampNeg (m.1 x0 1)) x1) (x0 + 4) (Int32.toNatClampNeg ((dc_wi m (x0 + 3) (Int32.toNatClampNeg (m.1 x0 1)) x1).1 x0 1)) x2).1 x0 1)) x3) (x0 + 6) (Int32.toNatClampNeg ((dc_wi (dc_wi (dc_wi m (x0 + 3) (Int32.toNatClampNeg (m.1 x0 1)) x1) (x0 + 4) (Int32.toNatClampNeg ((dc_wi m (x0 + 3) (Int32.toNatClampNeg (m.1 x0 1)) x1).1 x0 1)) x2) (x0 + 5) (Int32.toNatClampNeg ((dc_wi (dc_wi m (x0 + 3) (Int32.toNatClampNeg (m.1 x0 1)) x1) (x0 + 4) (Int32.toNatClampNeg ((dc_wi m (x0 + 3) (Int32.toNatClampNeg (m.1 x0 1)) x1).1 x0 1)) x2).1 x0 1)) x3).1 x0 1)) (0 : Int32)).1 x0 1)) (0 : Int32)) (x0 + 8) (Int32.toNatClampNeg ((dc_wi (dc_wi (dc_wi (dc_wi (dc_wi m (x0 + 3) (Int32.toNatClampNeg (m.1 x0 1)) x1) (x0 + 4) (Int32.toNatClampNeg ((dc_wi m (x0 + 3) (Int32.toNatClampNeg (m.1 x0 1)) x1).1 x0 1)) x2) (x0 + 5) (Int32.toNatClampNeg ((dc_wi (dc_wi m (x0 + 3) (Int32.toNatClampNeg (m.1 x0 1)) x1) (x0 + 4) (Int32.toNatClampNeg ((dc_wi m (x0 + 3) (Int32.toNatClampNeg (m.1 x0 1)) x1).1 x0 1)) x2).1 x0 1)) x3) (x0 + 6) (Int32.toNatClampNeg ((dc_wi (dc_wi (dc_wi m (x0 + 3) (Int32.toNatClampNeg (m.1 x0 1)) x1) (x0 + 4) (Int32.toNatClampNeg ((dc_wi m (x0 + 3) (Int32.toNatClampNeg (m.1 x0 1)) x1).1 x0 1)) x2) (x0 + 5) (Int32.toNatClampNeg ((dc_wi (dc_wi m (x0 + 3) (Int32.toNatClampNeg (m.1 x0 1)) x1) (x0 + 4) (Int32.toNatClampNeg ((dc_wi m (x0 + 3) (Int32.toNatClampNeg (m.1 x0 1)) x1).1 x0 1)) x2).1 x0 1)) x3).1 x0 1)) (0 : Int32)) (x0 + 7) (Int32.toNatClampNeg ((dc_wi (dc_wi (dc_wi (dc_wi m (x0 + 3) (Int32.toNatClampNeg (m.1 x0 1)) x1) (x0 + 4) (Int32.toNatClampNeg ((dc_wi m (x0 + 3) (Int32.toNatClampNeg (m.1 x0 1)) x1).1 x0 1)) x2) (x0 + 5) (Int32.toNatClampNeg ((dc_wi (dc_wi m (x0 + 3) (Int32.toNatClampNeg (m.1 x0 1)) x1) (x0 + 4) (Int32.toNatClampNeg ((dc_wi m (x0 + 3) (Int32.toNatClampNeg (m.1 x0 1)) x1).1 x0 1)) x2).1 x0 1)) x3) (x0 + 6) (Int32.toNatClampNeg ((dc_wi (dc_wi (dc_wi m (x0 + 3) (Int32.toNatClampNeg (m.1 x0 1)) x1) (x0 + 4) (Int32.toNatClampNeg ((dc_wi m (x0 + 3) (Int32.toNatClampNeg (m.1 x0 1)) x1).1 x0 1)) x2) (x0 + 5) (Int32.toNatClampNeg ((dc_wi (dc_wi m (x0 + 3) (Int32.toNatClampNeg (m.1 x0 1)) x1) (x0 + 4) (Int32.toNatClampNeg ((dc_wi m (x0 + 3) (Int32.toNatClampNeg (m.1 x0 1)) x1).1 x0 1)) x2).1 x0 1)) x3).1 x0 1)) (0 : Int32)).1 x0 1)) (0 : Int32)).1 x0 1)) (1 : Int32)).1 x0 1)] rfl (fun _ => rfl) rfl ?_
    refine dg_m (pc' := 83) (dc_wi (dc_wi (dc_wi (dc_wi (dc_wi (dc_wi (dc_wi m (x0 + 3) (Int32.toNatClampNeg (m.1 x0 1)) x1) (x0 + 4) (Int32.toNatClampNeg ((dc_wi m (x0 + 3) (Int32.toNatClampNeg (m.1 x0 1)) x1).1 x0 1)) x2) (x0 + 5) (Int32.toNatClampNeg ((dc_wi (dc_wi m (x0 + 3) (Int32.toNatClampNeg (m.1 x0 1)) x1) (x0 + 4) (Int32.toNatClampNeg ((dc_wi m (x0 + 3) (Int32.toNatClampNeg (m.1 x0 1)) x1).1 x0 1)) x2).1 x0 1)) x3) (x0 + 6) (Int32.toNatClampNeg ((dc_wi (dc_wi (dc_wi m (x0 + 3) (Int32.toNatClampNeg (m.1 x0 1)) x1) (x0 + 4) (Int32.toNatClampNeg ((dc_wi m (x0 + 3) (Int32.toNatClampNeg (m.1 x0 1)) x1).1 x0 1)) x2) (x0 + 5) (Int32.toNatClampNeg ((dc_wi (dc_wi m (x0 + 3) (Int32.toNatClampNeg (m.1 x0 1)) x1) (x0 + 4) (Int32.toNatClampNeg ((dc_wi m (x0 + 3) (Int32.toNatClampNeg (m.1 x0 1)) x1).1 x0 1)) x2).1 x0 1)) x3).1 x0 1)) (0 : Int32)) (x0 + 7) (Int32.toNatClampNeg ((dc_wi (dc_wi (dc_wi (dc_wi m (x0 + 3) (Int32.toNatClampNeg (m.1 x0 1)) x1) (x0 + 4) (Int32.toNatClampNeg ((dc_wi m (x0 + 3) (Int32.toNatClampNeg (m.1 x0 1)) x1).1 x0 1)) x2) (x0 + 5) (Int32.toNatClampNeg ((dc_wi (dc_wi m (x0 + 3) (Int32.toNatClampNeg (m.1 x0 1)) x1) (x0 + 4) (Int32.toNatClampNeg ((dc_wi m (x0 + 3) (Int32.toNatClampNeg (m.1 x0 1)) x1).1 x0 1)) x2).1 x0 1)) x3) (x0 + 6) (Int32.toNatClampNeg ((dc_wi (dc_wi (dc_wi m (x0 + 3) (Int32.toNatClampNeg (m.1 x0 1)) x1) (x0 + 4) (Int32.toNatClampNeg ((dc_wi m (x0 + 3) (Int32.toNatClampNeg (m.1 x0 1)) x1).1 x0 1)) x2) (x0 + 5) (Int32.toNatClampNeg ((dc_wi (dc_wi m (x0 + 3) (Int32.toNatClampNeg (m.1 x0 1)) x1) (x0 + 4) (Int32.toNatClampNeg ((dc_wi m (x0 + 3) (Int32.toNatClampNeg (m.1 x0 1)) x1).1 x0 1)) x2).1 x0 1)) x3).1 x0 1)) (0 : Int32)).1 x0 1)) (0 : Int32)) (x0 + 8) (Int32.toNatClampNeg ((dc_wi (dc_wi (dc_wi (dc_wi (dc_wi m (x0 + 3) (Int32.toNatClampNeg (m.1 x0 1)) x1) (x0 + 4) (Int32.toNatClampNeg ((dc_wi m (x0 + 3) (Int32.toNatClampNeg (m.1 x0 1)) x1).1 x0 1)) x2) (x0 + 5) (Int32.toNatClampNeg ((dc_wi (dc_wi m (x0 + 3) (Int32.toNatClampNeg (m.1 x0 1)) x1) (x0 + 4) (Int32.toNatClampNeg ((dc_wi m (x0 + 3) (Int32.toNatClampNeg (m.1 x0 1)) x1).1 x0 1)) x2).1 x0 1)) x3) (x0 + 6) (Int32.toNatClampNeg ((dc_wi (dc_wi (dc_wi m (x0 + 3) (Int32.toNatClampNeg (m.1 x0 1)) x1) (x0 + 4) (Int32.toNatClampNeg ((dc_wi m (x0 + 3) (Int32.toNatClampNeg (m.1 x0 1)) x1).1 x0 1)) x2) (x0 + 5) (Int32.toNatClampNeg ((dc_wi (dc_wi m (x0 + 3) (Int32.toNatClampNeg (m.1 x0 1)) x1) (x0 + 4) (Int32.toNatClampNeg ((dc_wi m (x0 + 3) (Int32.toNatClampNeg (m.1 x0 1)) x1).1 x0 1)) x2).1 x0 1)) x3).1 x0 1)) (0 : Int32)) (x0 + 7) (Int32.toNatClampNeg ((dc_wi (dc_wi (dc_wi (dc_wi m (x0 + 3) (Int32.toNatClampNeg (m.1 x0 1)) x1) (x0 + 4) (Int32.toNatClampNeg ((dc_wi m (x0 + 3) (Int32.toNatClampNeg (m.1 x0 1)) x1).1 x0 1)) x2) (x0 + 5) (Int32.toNatClampNeg ((dc_wi (dc_wi m (x0 + 3) (Int32.toNatClampNeg (m.1 x0 1)) x1) (x0 + 4) (Int32.toNatClampNeg ((dc_wi m (x0 + 3) (Int32.toNatClampNeg (m.1 x0 1)) x1).1 x0 1)) x2).1 x0 1)) x3) (x0 + 6) (Int32.toNatClampNeg ((dc_wi (dc_wi (dc_wi m (x0 + 3) (Int32.toNatClampNeg (m.1 x0 1)) x1) (x0 + 4) (Int32.toNatClampNeg ((dc_wi m (x0 + 3) (Int32.toNatClampNeg (m.1 x0 1)) x1).1 x0 1)) x2) (x0 + 5) (Int32.toNatClampNeg ((dc_wi (dc_wi m (x0 + 3) (Int32.toNatClampNeg (m.1 x0 1)) x1) (x0 + 4) (Int32.toNatClampNeg ((dc_wi m (x0 + 3) (Int32.toNatClampNeg (m.1 x0 1)) x1).1 x0 1)) x2).1 x0 1)) x3).1 x0 1)) (0 : Int32)).1 x0 1)) (0 : Int32)).1 x0 1)) (1 : Int32)) x0 1 (((dc_wi (dc_wi (dc_wi (dc_wi (dc_wi (dc_wi m (x0 + 3) (Int32.toNatClampNeg (m.1 x0 1)) x1) (x0 + 4) (Int32.toNatClampNeg ((dc_wi m (x0 + 3) (Int32.toNatClampNeg (m.1 x0 1)) x1).1 x0 1)) x2) (x0 + 5) (Int32.toNatClampNeg ((dc_wi (dc_wi m (x0 + 3) (Int32.toNatClampNeg (m.1 x0 1)) x1) (x0 + 4) (Int32.toNatClampNeg ((dc_wi m (x0 + 3) (Int32.toNatClampNeg (m.1 x0 1)) x1).1 x0 1)) x2).1 x0 1)) x3) (x0 + 6) (Int32.toNatClampNeg ((dc_wi (dc_wi (dc_wi m (x0 + 3) (Int32.toNatClampNeg (m.1 x0 1)) x1) (x0 + 4) (Int32.toNatClampNeg ((dc_wi m (x0 + 3) (Int32.toNatClampNeg (m.1 x0 1)) x1).1 x0 1)) x2) (x0 + 5) (Int32.toNatClampNeg ((dc_wi (dc_wi m (x0 + 3) (Int32.toNatClampNeg (m.1 x0 1)) x1) (x0 + 4) (Int32.toNatClampNeg ((dc_wi m (x0 + 3) (Int32.toNatClampNeg (m.1 x0 1)) x1).1 x0 1)) x2).1 x0 1)) x3).1 x0 1)) (0 : Int32)) (x0 + 7) (Int32.toNatClampNeg ((dc_wi (dc_wi (dc_wi (dc_wi m (x0 + 3) (Int32.toNatClampNeg (m.1 x0 1)) x1) (x0 + 4) (Int32.toNatClampNeg ((dc_wi m (x0 + 3) (Int32.toNatClampNeg (m.1 x0 1)) x1).1 x0 1)) x2) (x0 + 5) (Int32.toNatClampNeg ((dc_wi (dc_wi m (x0 + 3) (Int32.toNatClampNeg (m.1 x0 1)) x1) (x0 + 4) (Int32.toNatClampNeg ((dc_wi m (x0 + 3) (Int32.toNatClampNeg (m.1 x0 1)) x1).1 x0 1)) x2).1 x0 1)) x3) (x0 + 6) (Int32.toNatClampNeg ((dc_wi (dc_wi (dc_wi m (x0 + 3) (Int32.toNatClampNeg (m.1 x0 1)) x1) (x0 + 4) (Int32.toNatClampNeg ((dc_wi m (x0 + 3) (Int32.toNatClampNeg (m.1 x0 1)) x1).1 x0 1)) x2) (x0 + 5) (Int32.toNatClampNeg ((dc_wi (dc_wi m (x0 + 3) (Int32.toNatClampNeg (m.1 x0 1)) x1) (x0 + 4) (Int32.toNatClampNeg ((dc_wi m (x0 + 3) (Int32.toNatClampNeg (m.1 x0 1)) x1).1 x0 1)) x2).1 x0 1)) x3).1 x0 1)) (0 : Int32)).1 x0 1)) (0 : Int32)) (x0 + 8) (Int32.toNatClampNeg ((dc_wi (dc_wi (dc_wi (dc_wi (dc_wi m (x0 + 3) (Int32.toNatClampNeg (m.1 x0 1)) x1) (x0 + 4) (Int32.toNatClampNeg ((dc_wi m (x0 + 3) (Int32.toNatClampNeg (m.1 x0 1)) x1).1 x0 1)) x2) (x0 + 5) (Int32.toNatClampNeg ((dc_wi (dc_wi m (x0 + 3) (Int32.toNatClampNeg (m.1 x0 1)) x1) (x0 + 4) (Int32.toNatClampNeg ((dc_wi m (x0 + 3) (Int32.toNatClampNeg (m.1 x0 1)) x1).1 x0 1)) x2).1 x0 1)) x3) (x0 + 6) (Int32.toNatClampNeg ((dc_wi (dc_wi (dc_wi m (x0 + 3) (Int32.toNatClampNeg (m.1 x0 1)) x1) (x0 + 4) (Int32.toNatClampNeg ((dc_wi m (x0 + 3) (Int32.toNatClampNeg (m.1 x0 1)) x1).1 x0 1)) x2) (x0 + 5) (Int32.toNatClampNeg ((dc_wi (dc_wi m (x0 + 3) (Int32.toNatClampNeg (m.1 x0 1)) x1) (x0 + 4) (Int32.toNatClampNeg ((dc_wi m (x0 + 3) (Int32.toNatClampNeg (m.1 x0 1)) x1).1 x0 1)) x2).1 x0 1)) x3).1 x0 1)) (0 : Int32)) (x0 + 7) (Int32.toNatClampNeg ((dc_wi (dc_wi (dc_wi (dc_wi m (x0 + 3) (Int32.toNatClampNeg (m.1 x0 1)) x1) (x0 + 4) (Int32.toNatClampNeg ((dc_wi m (x0 + 3) (Int32.toNatClampNeg (m.1 x0 1)) x1).1 x0 1)) x2) (x0 + 5) (Int32.toNatClampNeg ((dc_wi (dc_wi m (x0 + 3) (Int32.toNatClampNeg (m.1 x0 1)) x1) (x0 + 4) (Int32.toNatClampNeg ((dc_wi m (x0 + 3) (Int32.toNatClampNeg (m.1 x0 1)) x1).1 x0 1)) x2).1 x0 1)) x3) (x0 + 6) (Int32.toNatClampNeg ((dc_wi (dc_wi (dc_wi m (x0 + 3) (Int32.toNatClampNeg (m.1 x0 1)) x1) (x0 + 4) (Int32.toNatClampNeg ((dc_wi m (x0 + 3) (Int32.toNatClampNeg (m.1 x0 1)) x1).1 x0 1)) x2) (x0 + 5) (Int32.toNatClampNeg ((dc_wi (dc_wi m (x0 + 3) (Int32.toNatClampNeg (m.1 x0 1)) x1) (x0 + 4) (Int32.toNatClampNeg ((dc_wi m (x0 + 3) (Int32.toNatClampNeg (m.1 x0 1)) x1).1 x0 1)) x2).1 x0 1)) x3).1 x0 1)) (0 : Int32)).1 x0 1)) (0 : Int32)).1 x0 1)) (1 : Int32)).1 x0 1) + (1 : Int32))) [.int ((dc_wi (dc_wi (dc_wi (dc_wi (dc_wi (dc_wi m (x0 + 3) (Int32.toNatClampNeg (m.1 x0 1)) x1) (x0 + 4) (Int32.toNatClampNeg ((dc_wi m (x0 + 3) (Int32.toNatClampNeg (m.1 x0 1)) x1).1 x0 1)) x2) (x0 + 5) (Int32.toNatClampNeg ((dc_wi (dc_wi m (x0 + 3) (Int32.toNatClampNeg (m.1 x0 1)) x1) (x0 + 4) (Int32.toNatClampNeg ((dc_wi m (x0 + 3) (Int32.toNatClampNeg (m.1 x0 1)) x1).1 x0 1)) x2).1 x0 1)) x3) (x0 + 6) (Int32.toNatClampNeg ((dc_wi (dc_wi (dc_wi m (x0 + 3) (Int32.toNatClampNeg (m.1 x0 1)) x1) (x0 + 4) (Int32.toNatClampNeg ((dc_wi m (x0 + 3) (Int32.toNatClampNeg (m.1 x0 1)) x1).1 x0 1)) x2) (x0 + 5) (Int32.toNatClampNeg ((dc_wi (dc_wi m (x0 + 3) (Int32.toNatClampNeg (m.1 x0 1)) x1) (x0 + 4) (Int32.toNatClampNeg ((dc_wi m (x0 + 3) (Int32.toNatClampNeg (m.1 x0 1)) x1).1 x0 1)) x2).1 x0 1)) x3).1 x0 1)) (0 : Int32)) (x0 + 7) (Int32.toNatClampNeg ((dc_wi (dc_wi (dc_wi (dc_wi m (x0 + 3) (Int32.toNatClampNeg (m.1 x0 1)) x1) (x0 + 4) (Int32.toNatClampNeg ((dc_wi m (x0 + 3) (Int32.toNatClampNeg (m.1 x0 1)) x1).1 x0 1)) x2) (x0 + 5) (Int32.toNatClampNeg ((dc_wi (dc_wi m (x0 + 3) (Int32.toNatClampNeg (m.1 x0 1)) x1) (x0 + 4) (Int32.toNatClampNeg ((dc_wi m (x0 + 3) (Int32.toNatClampNeg (m.1 x0 1)) x1).1 x0 1)) x2).1 x0 1)) x3) (x0 + 6) (Int32.toNatClampNeg ((dc_wi (dc_wi (dc_wi m (x0 + 3) (Int32.toNatClampNeg (m.1 x0 1)) x1) (x0 + 4) (Int32.toNatClampNeg ((dc_wi m (x0 + 3) (Int32.toNatClampNeg (m.1 x0 1)) x1).1 x0 1)) x2) (x0 + 5) (Int32.toNatClampNeg ((dc_wi (dc_wi m (x0 + 3) (Int32.toNatClampNeg (m.1 x0 1)) x1) (x0 + 4) (Int32.toNatClampNeg ((dc_wi m (x0 + 3) (Int32.toNatClampNeg (m.1 x0 1)) x1).1 x0 1)) x2).1 x0 1)) x3).1 x0 1)) (0 : Int32)).1 x0 1)) (0 : Int32)) (x0 + 8) (Int32.toNatClampNeg ((dc_wi (dc_wi (dc_wi (dc_wi (dc_wi m (x0 + 3) (Int32.toNatClampNeg (m.1 x0 1)) x1) (x0 + 4) (Int32.toNatClampNeg ((dc_wi m (x0 + 3) (Int32.toNatClampNeg (m.1 x0 1)) x1).1 x0 1)) x2) (x0 + 5) (Int32.toNatClampNeg ((dc_wi (dc_wi m (x0 + 3) (Int32.toNatClampNeg (m.1 x0 1)) x1) (x0 + 4) (Int32.toNatClampNeg ((dc_wi m (x0 + 3) (Int32.toNatClampNeg (m.1 x0 1)) x1).1 x0 1)) x2).1 x0 1)) x3) (x0 + 6) (Int32.toNatClampNeg ((dc_wi (dc_wi (dc_wi m (x0 + 3) (Int32.toNatClampNeg (m.1 x0 1)) x1) (x0 + 4) (Int32.toNatClampNeg ((dc_wi m (x0 + 3) (Int32.toNatClampNeg (m.1 x0 1)) x1).1 x0 1)) x2) (x0 + 5) (Int32.toNatClampNeg ((dc_wi (dc_wi m (x0 + 3) (Int32.toNatClampNeg (m.1 x0 1)) x1) (x0 + 4) (Int32.toNatClampNeg ((dc_wi m (x0 + 3) (Int32.toNatClampNeg (m.1 x0 1)) x1).1 x0 1)) x2).1 x0 1)) x3).1 x0 1)) (0 : Int32)) (x0 + 7) (Int32.toNatClampNeg ((dc_wi (dc_wi (dc_wi (dc_wi m (x0 + 3) (Int32.toNatClampNeg (m.1 x0 1)) x1) (x0 + 4) (Int32.toNatClampNeg ((dc_wi m (x0 + 3) (Int32.toNatClampNeg (m.1 x0 1)) x1).1 x0 1)) x2) (x0 + 5) (Int32.toNatClampNeg ((dc_wi (dc_wi m (x0 + 3) (Int32.toNatClampNeg (m.1 x0 1)) x1) (x0 + 4) (Int32.toNatClampNeg ((dc_wi m (x0 + 3) (Int32.toNatClampNeg (m.1 x0 1)) x1).1 x0 1)) x2).1 x0 1)) x3) (x0 + 6) (Int32.toNatClampNeg ((dc_wi (dc_wi (dc_wi m (x0 + 3) (Int32.toNatClampNeg (m.1 x0 1)) x1) (x0 + 4) (Int32.toNatClampNeg ((dc_wi m (x0 + 3) (Int32.toNatClampNeg (m.1 x0 1)) x1).1 x0 1)) x2) (x0 + 5) (Int32.toNatClampNeg ((dc_wi (dc_wi m (x0 + 3) (Int32.toNatClampNeg (m.1 x0 1)) x1) (x0 + 4) (Int32.toNatClampNeg ((dc_wi m (x0 + 3) (Int32.toNatClampNeg (m.1 x0 1)) x1).1 x0 1)) x2).1 x0 1)) x3).1 x0 1)) (0 : Int32)).1 x0 1)) (0 : Int32)).1 x0 1)) (1 : Int32)).1 x0 1)] rfl (fun _ => rfl) rfl ?_
    exact dw_r (some (.inl (some (.int ((dc_wi (dc_wi (dc_wi (dc_wi (dc_wi (dc_wi m (x0 + 3) (Int32.toNatClampNeg (m.1 x0 1)) x1) (x0 + 4) (Int32.toNatClampNeg ((dc_wi m (x0 + 3) (Int32.toNatClampNeg (m.1 x0 1)) x1).1 x0 1)) x2) (x0 + 5) (Int32.toNatClampNeg ((dc_wi (dc_wi m (x0 + 3) (Int32.toNatClampNeg (m.1 x0 1)) x1) (x0 + 4) (Int32.toNatClampNeg ((dc_wi m (x0 + 3) (Int32.toNatClampNeg (m.1 x0 1)) x1).1 x0 1)) x2).1 x0 1)) x3) (x0 + 6) (Int32.toNatClampNeg ((dc_wi (dc_wi (dc_wi m (x0 + 3) (Int32.toNatClampNeg (m.1 x0 1)) x1) (x0 + 4) (Int32.toNatClampNeg ((dc_wi m (x0 + 3) (Int32.toNatClampNeg (m.1 x0 1)) x1).1 x0 1)) x2) (x0 + 5) (Int32.toNatClampNeg ((dc_wi (dc_wi m (x0 + 3) (Int32.toNatClampNeg (m.1 x0 1)) x1) (x0 + 4) (Int32.toNatClampNeg ((dc_wi m (x0 + 3) (Int32.toNatClampNeg (m.1 x0 1)) x1).1 x0 1)) x2).1 x0 1)) x3).1 x0 1)) (0 : Int32)) (x0 + 7) (Int32.toNatClampNeg ((dc_wi (dc_wi (dc_wi (dc_wi m (x0 + 3) (Int32.toNatClampNeg (m.1 x0 1)) x1) (x0 + 4) (Int32.toNatClampNeg ((dc_wi m (x0 + 3) (Int32.toNatClampNeg (m.1 x0 1)) x1).1 x0 1)) x2) (x0 + 5) (Int32.toNatClampNeg ((dc_wi (dc_wi m (x0 + 3) (Int32.toNatClampNeg (m.1 x0 1)) x1) (x0 + 4) (Int32.toNatClampNeg ((dc_wi m (x0 + 3) (Int32.toNatClampNeg (m.1 x0 1)) x1).1 x0 1)) x2).1 x0 1)) x3) (x0 + 6) (Int32.toNatClampNeg ((dc_wi (dc_wi (dc_wi m (x0 + 3) (Int32.toNatClampNeg (m.1 x0 1)) x1) (x0 + 4) (Int32.toNatClampNeg ((dc_wi m (x0 + 3) (Int32.toNatClampNeg (m.1 x0 1)) x1).1 x0 1)) x2) (x0 + 5) (Int32.toNatClampNeg ((dc_wi (dc_wi m (x0 + 3) (Int32.toNatClampNeg (m.1 x0 1)) x1) (x0 + 4) (Int32.toNatClampNeg ((dc_wi m (x0 + 3) (Int32.toNatClampNeg (m.1 x0 1)) x1).1 x0 1)) x2).1 x0 1)) x3).1 x0 1)) (0 : Int32)).1 x0 1)) (0 : Int32)) (x0 + 8) (Int32.toNatClampNeg ((dc_wi (dc_wi (dc_wi (dc_wi (dc_wi m (x0 + 3) (Int32.toNatClampNeg (m.1 x0 1)) x1) (x0 + 4) (Int32.toNatClampNeg ((dc_wi m (x0 + 3) (Int32.toNatClampNeg (m.1 x0 1)) x1).1 x0 1)) x2) (x0 + 5) (Int32.toNatClampNeg ((dc_wi (dc_wi m (x0 + 3) (Int32.toNatClampNeg (m.1 x0 1)) x1) (x0 + 4) (Int32.toNatClampNeg ((dc_wi m (x0 + 3) (Int32.toNatClampNeg (m.1 x0 1)) x1).1 x0 1)) x2).1 x0 1)) x3) (x0 + 6) (Int32.toNatClampNeg ((dc_wi (dc_wi (dc_wi m (x0 + 3) (Int32.toNatClampNeg (m.1 x0 1)) x1) (x0 + 4) (Int32.toNatClampNeg ((dc_wi m (x0 + 3) (Int32.toNatClampNeg (m.1 x0 1)) x1).1 x0 1)) x2) (x0 + 5) (Int32.toNatClampNeg ((dc_wi (dc_wi m (x0 + 3) (Int32.toNatClampNeg (m.1 x0 1)) x1) (x0 + 4) (Int32.toNatClampNeg ((dc_wi m (x0 + 3) (Int32.toNatClampNeg (m.1 x0 1)) x1).1 x0 1)) x2).1 x0 1)) x3).1 x0 1)) (0 : Int32)) (x0 + 7) (Int32.toNatClampNeg ((dc_wi (dc_wi (dc_wi (dc_wi m (x0 + 3) (Int32.toNatClampNeg (m.1 x0 1)) x1) (x0 + 4) (Int32.toNatClampNeg ((dc_wi m (x0 + 3) (Int32.toNatClampNeg (m.1 x0 1)) x1).1 x0 1)) x2) (x0 + 5) (Int32.toNatClampNeg ((dc_wi (dc_wi m (x0 + 3) (Int32.toNatClampNeg (m.1 x0 1)) x1) (x0 + 4) (Int32.toNatClampNeg ((dc_wi m (x0 + 3) (Int32.toNatClampNeg (m.1 x0 1)) x1).1 x0 1)) x2).1 x0 1)) x3) (x0 + 6) (Int32.toNatClampNeg ((dc_wi (dc_wi (dc_wi m (x0 + 3) (Int32.toNatClampNeg (m.1 x0 1)) x1) (x0 + 4) (Int32.toNatClampNeg ((dc_wi m (x0 + 3) (Int32.toNatClampNeg (m.1 x0 1)) x1).1 x0 1)) x2) (x0 + 5) (Int32.toNatClampNeg ((dc_wi (dc_wi m (x0 + 3) (Int32.toNatClampNeg (m.1 x0 1)) x1) (x0 + 4) (Int32.toNatClampNeg ((dc_wi m (x0 + 3) (Int32.toNatClampNeg (m.1 x0 1)) x1).1 x0 1)) x2).1 x0 1)) x3).1 x0 1)) (0 : Int32)).1 x0 1)) (0 : Int32)).1 x0 1)) (1 : Int32)).1 x0 1)), (dc_wi (dc_wi (dc_wi (dc_wi (dc_wi (dc_wi (dc_wi m (x0 + 3) (Int32.toNatClampNeg (m.1 x0 1)) x1) (x0 + 4) (Int32.toNatClampNeg ((dc_wi m (x0 + 3) (Int32.toNatClampNeg (m.1 x0 1)) x1).1 x0 1)) x2) (x0 + 5) (Int32.toNatClampNeg ((dc_wi (dc_wi m (x0 + 3) (Int32.toNatClampNeg (m.1 x0 1)) x1) (x0 + 4) (Int32.toNatClampNeg ((dc_wi m (x0 + 3) (Int32.toNatClampNeg (m.1 x0 1)) x1).1 x0 1)) x2).1 x0 1)) x3) (x0 + 6) (Int32.toNatClampNeg ((dc_wi (dc_wi (dc_wi m (x0 + 3) (Int32.toNatClampNeg (m.1 x0 1)) x1) (x0 + 4) (Int32.toNatClampNeg ((dc_wi m (x0 + 3) (Int32.toNatClampNeg (m.1 x0 1)) x1).1 x0 1)) x2) (x0 + 5) (Int32.toNatClampNeg ((dc_wi (dc_wi m (x0 + 3) (Int32.toNatClampNeg (m.1 x0 1)) x1) (x0 + 4) (Int32.toNatClampNeg ((dc_wi m (x0 + 3) (Int32.toNatClampNeg (m.1 x0 1)) x1).1 x0 1)) x2).1 x0 1)) x3).1 x0 1)) (0 : Int32)) (x0 + 7) (Int32.toNatClampNeg ((dc_wi (dc_wi (dc_wi (dc_wi m (x0 + 3) (Int32.toNatClampNeg (m.1 x0 1)) x1) (x0 + 4) (Int32.toNatClampNeg ((dc_wi m (x0 + 3) (Int32.toNatClampNeg (m.1 x0 1)) x1).1 x0 1)) x2) (x0 + 5) (Int32.toNatClampNeg ((dc_wi (dc_wi m (x0 + 3) (Int32.toNatClampNeg (m.1 x0 1)) x1) (x0 + 4) (Int32.toNatClampNeg ((dc_wi m (x0 + 3) (Int32.toNatClampNeg (m.1 x0 1)) x1).1 x0 1)) x2).1 x0 1)) x3) (x0 + 6) (Int32.toNatClampNeg ((dc_wi (dc_wi (dc_wi m (x0 + 3) (Int32.toNatClampNeg (m.1 x0 1)) x1) (x0 + 4) (Int32.toNatClampNeg ((dc_wi m (x0 + 3) (Int32.toNatClampNeg (m.1 x0 1)) x1).1 x0 1)) x2) (x0 + 5) (Int32.toNatClampNeg ((dc_wi (dc_wi m (x0 + 3) (Int32.toNatClampNeg (m.1 x0 1)) x1) (x0 + 4) (Int32.toNatClampNeg ((dc_wi m (x0 + 3) (Int32.toNatClampNeg (m.1 x0 1)) x1).1 x0 1)) x2).1 x0 1)) x3).1 x0 1)) (0 : Int32)).1 x0 1)) (0 : Int32)) (x0 + 8) (Int32.toNatClampNeg ((dc_wi (dc_wi (dc_wi (dc_wi (dc_wi m (x0 + 3) (Int32.toNatClampNeg (m.1 x0 1)) x1) (x0 + 4) (Int32.toNatClampNeg ((dc_wi m (x0 + 3) (Int32.toNatClampNeg (m.1 x0 1)) x1).1 x0 1)) x2) (x0 + 5) (Int32.toNatClampNeg ((dc_wi (dc_wi m (x0 + 3) (Int32.toNatClampNeg (m.1 x0 1)) x1) (x0 + 4) (Int32.toNatClampNeg ((dc_wi m (x0 + 3) (Int32.toNatClampNeg (m.1 x0 1)) x1).1 x0 1)) x2).1 x0 1)) x3) (x0 + 6) (Int32.toNatClampNeg ((dc_wi (dc_wi (dc_wi m (x0 + 3) (Int32.toNatClampNeg (m.1 x0 1)) x1) (x0 + 4) (Int32.toNatClampNeg ((dc_wi m (x0 + 3) (Int32.toNatClampNeg (m.1 x0 1)) x1).1 x0 1)) x2) (x0 + 5) (Int32.toNatClampNeg ((dc_wi (dc_wi m (x0 + 3) (Int32.toNatClampNeg (m.1 x0 1)) x1) (x0 + 4) (Int32.toNatClampNeg ((dc_wi m (x0 + 3) (Int32.toNatClampNeg (m.1 x0 1)) x1).1 x0 1)) x2).1 x0 1)) x3).1 x0 1)) (0 : Int32)) (x0 + 7) (Int32.toNatClampNeg ((dc_wi (dc_wi (dc_wi (dc_wi m (x0 + 3) (Int32.toNatClampNeg (m.1 x0 1)) x1) (x0 + 4) (Int32.toNatClampNeg ((dc_wi m (x0 + 3) (Int32.toNatClampNeg (m.1 x0 1)) x1).1 x0 1)) x2) (x0 + 5) (Int32.toNatClampNeg ((dc_wi (dc_wi m (x0 + 3) (Int32.toNatClampNeg (m.1 x0 1)) x1) (x0 + 4) (Int32.toNatClampNeg ((dc_wi m (x0 + 3) (Int32.toNatClampNeg (m.1 x0 1)) x1).1 x0 1)) x2).1 x0 1)) x3) (x0 + 6) (Int32.toNatClampNeg ((dc_wi (dc_wi (dc_wi m (x0 + 3) (Int32.toNatClampNeg (m.1 x0 1)) x1) (x0 + 4) (Int32.toNatClampNeg ((dc_wi m (x0 + 3) (Int32.toNatClampNeg (m.1 x0 1)) x1).1 x0 1)) x2) (x0 + 5) (Int32.toNatClampNeg ((dc_wi (dc_wi m (x0 + 3) (Int32.toNatClampNeg (m.1 x0 1)) x1) (x0 + 4) (Int32.toNatClampNeg ((dc_wi m (x0 + 3) (Int32.toNatClampNeg (m.1 x0 1)) x1).1 x0 1)) x2).1 x0 1)) x3).1 x0 1)) (0 : Int32)).1 x0 1)) (0 : Int32)).1 x0 1)) (1 : Int32)) x0 1 (((dc_wi (dc_wi (dc_wi (dc_wi (dc_wi (dc_wi m (x0 + 3) (Int32.toNatClampNeg (m.1 x0 1)) x1) (x0 + 4) (Int32.toNatClampNeg ((dc_wi m (x0 + 3) (Int32.toNatClampNeg (m.1 x0 1)) x1).1 x0 1)) x2) (x0 + 5) (Int32.toNatClampNeg ((dc_wi (dc_wi m (x0 + 3) (Int32.toNatClampNeg (m.1 x0 1)) x1) (x0 + 4) (Int32.toNatClampNeg ((dc_wi m (x0 + 3) (Int32.toNatClampNeg (m.1 x0 1)) x1).1 x0 1)) x2).1 x0 1)) x3) (x0 + 6) (Int32.toNatClampNeg ((dc_wi (dc_wi (dc_wi m (x0 + 3) (Int32.toNatClampNeg (m.1 x0 1)) x1) (x0 + 4) (Int32.toNatClampNeg ((dc_wi m (x0 + 3) (Int32.toNatClampNeg (m.1 x0 1)) x1).1 x0 1)) x2) (x0 + 5) (Int32.toNatClampNeg ((dc_wi (dc_wi m (x0 + 3) (Int32.toNatClampNeg (m.1 x0 1)) x1) (x0 + 4) (Int32.toNatClampNeg ((dc_wi m (x0 + 3) (Int32.toNatClampNeg (m.1 x0 1)) x1).1 x0 1)) x2).1 x0 1)) x3).1 x0 1)) (0 : Int32)) (x0 + 7) (Int32.toNatClampNeg ((dc_wi (dc_wi (dc_wi (dc_wi m (x0 + 3) (Int32.toNatClampNeg (m.1 x0 1)) x1) (x0 + 4) (Int32.toNatClampNeg ((dc_wi m (x0 + 3) (Int32.toNatClampNeg (m.1 x0 1)) x1).1 x0 1)) x2) (x0 + 5) (Int32.toNatClampNeg ((dc_wi (dc_wi m (x0 + 3) (Int32.toNatClampNeg (m.1 x0 1)) x1) (x0 + 4) (Int32.toNatClampNeg ((dc_wi m (x0 + 3) (Int32.toNatClampNeg (m.1 x0 1)) x1).1 x0 1)) x2).1 x0 1)) x3) (x0 + 6) (Int32.toNatClampNeg ((dc_wi (dc_wi (dc_wi m (x0 + 3) (Int32.toNatClampNeg (m.1 x0 1)) x1) (x0 + 4) (Int32.toNatClampNeg ((dc_wi m (x0 + 3) (Int32.toNatClampNeg (m.1 x0 1)) x1).1 x0 1)) x2) (x0 + 5) (Int32.toNatClampNeg ((dc_wi (dc_wi m (x0 + 3) (Int32.toNatClampNeg (m.1 x0 1)) x1) (x0 + 4) (Int32.toNatClampNeg ((dc_wi m (x0 + 3) (Int32.toNatClampNeg (m.1 x0 1)) x1).1 x0 1)) x2).1 x0 1)) x3).1 x0 1)) (0 : Int32)).1 x0 1)) (0 : Int32)) (x0 + 8) (Int32.toNatClampNeg ((dc_wi (dc_wi (dc_wi (dc_wi (dc_wi m (x0 + 3) (Int32.toNatClampNeg (m.1 x0 1)) x1) (x0 + 4) (Int32.toNatClampNeg ((dc_wi m (x0 + 3) (Int32.toNatClampNeg (m.1 x0 1)) x1).1 x0 1)) x2) (x0 + 5) (Int32.toNatClampNeg ((dc_wi (dc_wi m (x0 + 3) (Int32.toNatClampNeg (m.1 x0 1)) x1) (x0 + 4) (Int32.toNatClampNeg ((dc_wi m (x0 + 3) (Int32.toNatClampNeg (m.1 x0 1)) x1).1 x0 1)) x2).1 x0 1)) x3) (x0 + 6) (Int32.toNatClampNeg ((dc_wi (dc_wi (dc_wi m (x0 + 3) (Int32.toNatClampNeg (m.1 x0 1)) x1) (x0 + 4) (Int32.toNatClampNeg ((dc_wi m (x0 + 3) (Int32.toNatClampNeg (m.1 x0 1)) x1).1 x0 1)) x2) (x0 + 5) (Int32.toNatClampNeg ((dc_wi (dc_wi m (x0 + 3) (Int32.toNatClampNeg (m.1 x0 1)) x1) (x0 + 4) (Int32.toNatClampNeg ((dc_wi m (x0 + 3) (Int32.toNatClampNeg (m.1 x0 1)) x1).1 x0 1)) x2).1 x0 1)) x3).1 x0 1)) (0 : Int32)) (x0 + 7) (Int32.toNatClampNeg ((dc_wi (dc_wi (dc_wi (dc_wi m (x0 + 3) (Int32.toNatClampNeg (m.1 x0 1)) x1) (x0 + 4) (Int32.toNatClampNeg ((dc_wi m (x0 + 3) (Int32.toNatClampNeg (m.1 x0 1)) x1).1 x0 1)) x2) (x0 + 5) (Int32.toNatClampNeg ((dc_wi (dc_wi m (x0 + 3) (Int32.toNatClampNeg (m.1 x0 1)) x1) (x0 + 4) (Int32.toNatClampNeg ((dc_wi m (x0 + 3) (Int32.toNatClampNeg (m.1 x0 1)) x1).1 x0 1)) x2).1 x0 1)) x3) (x0 + 6) (Int32.toNatClampNeg ((dc_wi (dc_wi (dc_wi m (x0 + 3) (Int32.toNatClampNeg (m.1 x0 1)) x1) (x0 + 4) (Int32.toNatClampNeg ((dc_wi m (x0 + 3) (Int32.toNatClampNeg (m.1 x0 1)) x1).1 x0 1)) x2) (x0 + 5) (Int32.toNatClampNeg ((dc_wi (dc_wi m (x0 + 3) (Int32.toNatClampNeg (m.1 x0 1)) x1) (x0 + 4) (Int32.toNatClampNeg ((dc_wi m (x0 + 3) (Int32.toNatClampNeg (m.1 x0 1)) x1).1 x0 1)) x2).1 x0 1)) x3).1 x0 1)) (0 : Int32)).1 x0 1)) (0 : Int32)).1 x0 1)) (1 : Int32)).1 x0 1) + (1 : Int32)))))) rfl (fun _ => rfl) (kR _ _)
  · refine dw_g rfl ?_
    refine dg_s (pc' := 11) [.int (-4 : Int32)] rfl (fun _ => rfl) rfl ?_
    exact dw_r (some (.inl (some (.int (-4 : Int32)), m))) rfl (fun _ => rfl) (kR _ _)
def H_X3_addEvent : dc_H := fun As m k => match As with
  | [.ref x0, .int x1, .int x2, .int x3] => dc_let (d_X3_addEvent x0 x1 x2 x3 m) (fun q => k (some (.int q.1)) q.2)
  | _ => dc_kz
theorem H_X3_addEvent_ok {u : Nat} : dc_cok u 34 H_X3_addEvent := fun M' hG N As m k P hz hP => by
  obtain rfl : ab_M_X3_addEvent = M' := Option.some.inj hG
  unfold H_X3_addEvent at hP
  split at hP
  · rename_i x0 x1 x2 x3
    exact dc_pv.imp (k_X3_addEvent (Φ := fun (t : (Int32 × dc_M)) r m' => P (dc_let t (fun q => k (some (.int q.1)) q.2)) → P (k r m')) x0 x1 x2 x3 m (fun _ _ h => h) rfl rfl rfl rfl) (fun r m' h => h hP)
  · exact absurd hP hz
def C_X3_eventLike : List (Nat × dc_H) := []
theorem CO_X3_eventLike {u : Nat} : dc_CO u C_X3_eventLike := dc_CO_nil
def S_X3_eventLike : List (Nat × List Nat) := [(3, [0, 1, 2, 3, 4])]
noncomputable def d_X3_eventLike_l3b (x0 : Nat) (x1 : Int32) (x2 : Int32) (x3 : Int32) (x4 : Int32) (m : dc_M) : Option (Int32 ⊕ Int32) :=
  (if (Int32.toInt (m.1 x0 1)) ≤ (Int32.toInt x4) then some (Sum.inr ((-4 : Int32))) else (if ¬ (Int32.toInt (m.1 (x0 + 3) (Int32.toNatClampNeg x4))) = (Int32.toInt x1) then some (Sum.inl (x4 + (1 : Int32))) else (if ¬ (Int32.toInt (m.1 (x0 + 4) (Int32.toNatClampNeg x4))) = (Int32.toInt x2) then some (Sum.inl (x4 + (1 : Int32))) else (if ¬ (Int32.toInt (m.1 (x0 + 5) (Int32.toNatClampNeg x4))) = (Int32.toInt x3) then some (Sum.inl (x4 + (1 : Int32))) else some (Sum.inr (x4))))))
noncomputable def d_X3_eventLike_l3s (x0 : Nat) (x1 : Int32) (x2 : Int32) (x3 : Int32) (m : dc_M) : Int32 → Option (Int32 ⊕ Int32) := fun s => d_X3_eventLike_l3b x0 x1 x2 x3 s m
noncomputable def d_X3_eventLike_l3 (x0 : Nat) (x1 : Int32) (x2 : Int32) (x3 : Int32) (x4 : Int32) (m : dc_M) : Option Int32 := dc_lp (d_X3_eventLike_l3s x0 x1 x2 x3 m) x4
set_option maxHeartbeats 8000000 in
theorem k_X3_eventLike_l3 {u : Nat} {Φ : (Option Int32) → Option Value → dc_M → Prop} (x0 : Nat) (x1 : Int32) (x2 : Int32) (x3 : Int32) (m : dc_M) (kR : ∀ (v : Int32), Φ (some (v)) (some (.int v)) m) : ∀ (N : Nat), ∀ (x4 : Int32) (lv : ab_L), ab_lk lv 0 = some (.ref x0) → ab_lk lv 1 = some (.int x1) → ab_lk lv 2 = some (.int x2) → ab_lk lv 3 = some (.int x3) → ab_lk lv 4 = some (.int x4) → dc_pv u N ab_M_X3_eventLike 3 lv [] m (Φ (d_X3_eventLike_l3 x0 x1 x2 x3 x4 m)) := by
  intro N
  induction N with
  | zero => intros; exact dc_pv_zero
  | succ N ih =>
    intro x4 lv f0 f1 f2 f3 f4
    refine dc_ok (C := C_X3_eventLike) (S := S_X3_eventLike) CO_X3_eventLike 400 3 [(0, .ref x0), (1, .int x1), (2, .int x2), (3, .int x3), (4, .int x4)] lv [] m (dc_sub_cons f0 (dc_sub_cons f1 (dc_sub_cons f2 (dc_sub_cons f3 (dc_sub_cons f4 (dc_sub_nil)))))) ?_
    unfold d_X3_eventLike_l3
    rw [dc_lp_eq]
    show (fun t x => dc_lf u N ab_M_X3_eventLike (Φ (Option.bind t (dc_bk (d_X3_eventLike_l3s x0 x1 x2 x3 m)))) x) (d_X3_eventLike_l3b x0 x1 x2 x3 x4 m) _
    dsimp only
    unfold d_X3_eventLike_l3b
    refine dg_s (pc' := 5) [.int x4] rfl (fun _ => rfl) rfl ?_
    refine dg_s (pc' := 6) [.ref x0, .int x4] rfl (fun _ => rfl) rfl ?_
    refine dg_s (pc' := 9) [.int (m.1 x0 1), .int x4] rfl (fun _ => rfl) rfl ?_
    refine dw_if (fun t => Φ (Option.bind t (dc_bk (d_X3_eventLike_l3s x0 x1 x2 x3 m)))) ((Int32.toInt (m.1 x0 1)) ≤ (Int32.toInt x4)) [] 54 12 rfl (fun _ => rfl) (fun c0 => ?_) (fun c0 => ?_)
    · refine dw_g rfl ?_
      refine dg_s (pc' := 56) [.int (-4 : Int32)] rfl (fun _ => rfl) rfl ?_
      exact dw_r (some (.inl (some (.int (-4 : Int32)), m))) rfl (fun _ => rfl) (kR _)
    · refine dw_g rfl ?_
      refine dg_s (pc' := 13) [.ref x0] rfl (fun _ => rfl) rfl ?_
      refine dg_s (pc' := 16) [.ref (x0 + 3)] rfl (fun _ => rfl) rfl ?_
      refine dg_s (pc' := 18) [.int x4, .ref (x0 + 3)] rfl (fun _ => rfl) rfl ?_
      refine dg_s (pc' := 19) [.int (m.1 (x0 + 3) (Int32.toNatClampNeg x4))] rfl (fun _ => rfl) rfl ?_
      refine dg_s (pc' := 20) [.int x1, .int (m.1 (x0 + 3) (Int32.toNatClampNeg x4))] rfl (fun _ => rfl) rfl ?_
      refine dw_if (fun t => Φ (Option.bind t (dc_bk (d_X3_eventLike_l3s x0 x1 x2 x3 m)))) (¬ (Int32.toInt (m.1 (x0 + 3) (Int32.toNatClampNeg x4))) = (Int32.toInt x1)) [] 48 23 rfl (fun _ => rfl) (fun c1 => ?_) (fun c1 => ?_)
      · refine dw_g rfl ?_
        refine dg_L (pc' := 51) [(4, .int (x4 + (1 : Int32))), (0, .ref x0), (1, .int x1), (2, .int x2), (3, .int x3)] [] rfl (fun _ => rfl) rfl ?_
        refine dw_s (pc' := 3) [] rfl (fun _ => rfl) ?_
        exact dw_j rfl (fun lv1 hv => ih (x4 + (1 : Int32)) lv1 (hv.1 _ rfl) (hv.2.1 _ rfl) (hv.2.2.1 _ rfl) (hv.2.2.2.1 _ rfl) (hv.2.2.2.2.1 _ rfl))
      · refine dw_g rfl ?_
        refine dg_s (pc' := 24) [.ref x0] rfl (fun _ => rfl) rfl ?_
        refine dg_s (pc' := 27) [.ref (x0 + 4)] rfl (fun _ => rfl) rfl ?_
        refine dg_s (pc' := 29) [.int x4, .ref (x0 + 4)] rfl (fun _ => rfl) rfl ?_
        refine dg_s (pc' := 30) [.int (m.1 (x0 + 4) (Int32.toNatClampNeg x4))] rfl (fun _ => rfl) rfl ?_
        refine dg_s (pc' := 31) [.int x2, .int (m.1 (x0 + 4) (Int32.toNatClampNeg x4))] rfl (fun _ => rfl) rfl ?_
        refine dw_if (fun t => Φ (Option.bind t (dc_bk (d_X3_eventLike_l3s x0 x1 x2 x3 m)))) (¬ (Int32.toInt (m.1 (x0 + 4) (Int32.toNatClampNeg x4))) = (Int32.toInt x2)) [] 48 34 rfl (fun _ => rfl) (fun c2 => ?_) (fun c2 => ?_)
        · refine dw_g rfl ?_
          refine dg_L (pc' := 51) [(4, .int (x4 + (1 : Int32))), (0, .ref x0), (1, .int x1), (2, .int x2), (3, .int x3)] [] rfl (fun _ => rfl) rfl ?_
          refine dw_s (pc' := 3) [] rfl (fun _ => rfl) ?_
          exact dw_j rfl (fun lv1 hv => ih (x4 + (1 : Int32)) lv1 (hv.1 _ rfl) (hv.2.1 _ rfl) (hv.2.2.1 _ rfl) (hv.2.2.2.1 _ rfl) (hv.2.2.2.2.1 _ rfl))
        · refine dw_g rfl ?_
          refine dg_s (pc' := 35) [.ref x0] rfl (fun _ => rfl) rfl ?_
          refine dg_s (pc' := 38) [.ref (x0 + 5)] rfl (fun _ => rfl) rfl ?_
          refine dg_s (pc' := 40) [.int x4, .ref (x0 + 5)] rfl (fun _ => rfl) rfl ?_
          refine dg_s (pc' := 41) [.int (m.1 (x0 + 5) (Int32.toNatClampNeg x4))] rfl (fun _ => rfl) rfl ?_
          refine dg_s (pc' := 42) [.int x3, .int (m.1 (x0 + 5) (Int32.toNatClampNeg x4))] rfl (fun _ => rfl) rfl ?_
          refine dw_if (fun t => Φ (Option.bind t (dc_bk (d_X3_eventLike_l3s x0 x1 x2 x3 m)))) (¬ (Int32.toInt (m.1 (x0 + 5) (Int32.toNatClampNeg x4))) = (Int32.toInt x3)) [] 48 45 rfl (fun _ => rfl) (fun c3 => ?_) (fun c3 => ?_)
          · refine dw_g rfl ?_
            refine dg_L (pc' := 51) [(4, .int (x4 + (1 : Int32))), (0, .ref x0), (1, .int x1), (2, .int x2), (3, .int x3)] [] rfl (fun _ => rfl) rfl ?_
            refine dw_s (pc' := 3) [] rfl (fun _ => rfl) ?_
            exact dw_j rfl (fun lv1 hv => ih (x4 + (1 : Int32)) lv1 (hv.1 _ rfl) (hv.2.1 _ rfl) (hv.2.2.1 _ rfl) (hv.2.2.2.1 _ rfl) (hv.2.2.2.2.1 _ rfl))
          · refine dw_g rfl ?_
            refine dg_s (pc' := 47) [.int x4] rfl (fun _ => rfl) rfl ?_
            exact dw_r (some (.inl (some (.int x4), m))) rfl (fun _ => rfl) (kR _)
noncomputable def d_X3_eventLike (x0 : Nat) (x1 : Int32) (x2 : Int32) (x3 : Int32) (m : dc_M) : Option Int32 :=
  (d_X3_eventLike_l3 x0 x1 x2 x3 (0 : Int32) m)
set_option maxHeartbeats 8000000 in
theorem k_X3_eventLike {u : Nat} {N : Nat} {Φ : (Option Int32) → Option Value → dc_M → Prop} (x0 : Nat) (x1 : Int32) (x2 : Int32) (x3 : Int32) (m : dc_M) (kR : ∀ (v : Int32), Φ (some (v)) (some (.int v)) m)  {lv : ab_L} (f0 : ab_lk lv 0 = some (.ref x0)) (f1 : ab_lk lv 1 = some (.int x1)) (f2 : ab_lk lv 2 = some (.int x2)) (f3 : ab_lk lv 3 = some (.int x3)) : dc_pv u N ab_M_X3_eventLike 0 lv [] m (Φ (d_X3_eventLike x0 x1 x2 x3 m)) := by
  refine dc_pv.mono (dc_ok (C := C_X3_eventLike) (S := S_X3_eventLike) CO_X3_eventLike 400 0 [(0, .ref x0), (1, .int x1), (2, .int x2), (3, .int x3)] lv [] m (dc_sub_cons f0 (dc_sub_cons f1 (dc_sub_cons f2 (dc_sub_cons f3 (dc_sub_nil))))) ?_) (Nat.le_succ N)
  unfold d_X3_eventLike
  refine dg_s (pc' := 1) [.int (0 : Int32)] rfl (fun _ => rfl) rfl ?_
  refine dw_L (pc' := 3) [(4, .int (0 : Int32)), (0, .ref x0), (1, .int x1), (2, .int x2), (3, .int x3)] [] rfl (fun _ => rfl) ?_
  exact dw_j rfl (fun lv1 hv => k_X3_eventLike_l3 (Φ := (fun t => Φ t)) x0 x1 x2 x3 m (fun _a  => kR _a) N  (0 : Int32) lv1 (hv.1 _ rfl) (hv.2.1 _ rfl) (hv.2.2.1 _ rfl) (hv.2.2.2.1 _ rfl) (hv.2.2.2.2.1 _ rfl))
noncomputable def H_X3_eventLike : dc_H := fun As m k => match As with
  | [.ref x0, .int x1, .int x2, .int x3] => (d_X3_eventLike x0 x1 x2 x3 m).bind (fun q => k (some (.int q)) m)
  | _ => dc_kz
theorem H_X3_eventLike_ok {u : Nat} : dc_cok u 32 H_X3_eventLike := fun M' hG N As m k P hz hP => by
  obtain rfl : ab_M_X3_eventLike = M' := Option.some.inj hG
  unfold H_X3_eventLike at hP
  split at hP
  · rename_i x0 x1 x2 x3
    exact dc_pv.imp (k_X3_eventLike (Φ := fun (t : Option Int32) r m' => P (t.bind (fun q => k (some (.int q)) m)) → P (k r m')) x0 x1 x2 x3 m (fun _  h => h) rfl rfl rfl rfl) (fun r m' h => h hP)
  · exact absurd hP hz
