/-! ===== methods as functions (written by a program) ===== -/
def C_X10_hardest : List (Nat × dc_H) := []
theorem CO_X10_hardest {u : Nat} : dc_CO u C_X10_hardest := dc_CO_nil
def S_X10_hardest : List (Nat × List Nat) := [(11, [0, 1, 3, 4, 5]), (35, [0, 1, 3, 4, 5, 6, 7]), (68, [0, 1, 3, 4, 5, 6]), (81, [0, 1, 4, 5, 6])]
noncomputable def d_X10_hardest_b81 (x0 : Nat) (x1 : Int64) (x4 : Int32) (x5 : Int32) (x6 : Int32) (s0 : Int32) (m : dc_M) : Option ((Int32 × Int32 × Int32) ⊕ Int32) :=
  (if (Int32.toInt x4) ≤ (Int32.toInt x6) then some (Sum.inl (s0, x4, (x5 + (1 : Int32)))) else some (Sum.inl (s0, x6, (x5 + (1 : Int32)))))
set_option maxHeartbeats 8000000 in
theorem k_X10_hardest_b81 {u : Nat} {N : Nat} {Φ : (Option ((Int32 × Int32 × Int32) ⊕ Int32)) → Option Value → dc_M → Prop} (x0 : Nat) (x1 : Int64) (x4 : Int32) (x5 : Int32) (x6 : Int32) (s0 : Int32) (m : dc_M) (kR : ∀ (v : Int32), Φ (some (Sum.inr (v))) (some (.int v)) m) (k11 : ∀ (x3 : Int32) (x4 : Int32) (x5 : Int32) (lv : ab_L), ab_lk lv 0 = some (.ref x0) → ab_lk lv 1 = some (.long x1) → ab_lk lv 3 = some (.int x3) → ab_lk lv 4 = some (.int x4) → ab_lk lv 5 = some (.int x5) →  dc_pv u N ab_M_X10_hardest 11 lv [] m (Φ (some (Sum.inl (x3, x4, x5))))) {lv : ab_L} (f0 : ab_lk lv 0 = some (.ref x0)) (f1 : ab_lk lv 1 = some (.long x1)) (f4 : ab_lk lv 4 = some (.int x4)) (f5 : ab_lk lv 5 = some (.int x5)) (f6 : ab_lk lv 6 = some (.int x6)) : dc_pv u N ab_M_X10_hardest 81 lv [.int s0] m (Φ (d_X10_hardest_b81 x0 x1 x4 x5 x6 s0 m)) := by
  refine dc_pv.mono (dc_ok (C := C_X10_hardest) (S := S_X10_hardest) CO_X10_hardest 400 81 [(0, .ref x0), (1, .long x1), (4, .int x4), (5, .int x5), (6, .int x6)] lv [.int s0] m (dc_sub_cons f0 (dc_sub_cons f1 (dc_sub_cons f4 (dc_sub_cons f5 (dc_sub_cons f6 (dc_sub_nil)))))) ?_) (Nat.le_succ N)
  unfold d_X10_hardest_b81
  refine dg_L (pc' := 82) [(3, .int s0), (0, .ref x0), (1, .long x1), (4, .int x4), (5, .int x5), (6, .int x6)] [] rfl (fun _ => rfl) rfl ?_
  refine dg_s (pc' := 84) [.int x6] rfl (fun _ => rfl) rfl ?_
  refine dg_s (pc' := 86) [.int x4, .int x6] rfl (fun _ => rfl) rfl ?_
  refine dw_if (fun t => Φ t) ((Int32.toInt x4) ≤ (Int32.toInt x6)) [] 94 89 rfl (fun _ => rfl) (fun c0 => ?_) (fun c0 => ?_)
  · refine dw_g rfl ?_
    refine dg_s (pc' := 96) [.int x4] rfl (fun _ => rfl) rfl ?_
    refine dg_L (pc' := 98) [(4, .int x4), (3, .int s0), (0, .ref x0), (1, .long x1), (5, .int x5), (6, .int x6)] [] rfl (fun _ => rfl) rfl ?_
    refine dg_L (pc' := 101) [(5, .int (x5 + (1 : Int32))), (4, .int x4), (3, .int s0), (0, .ref x0), (1, .long x1), (6, .int x6)] [] rfl (fun _ => rfl) rfl ?_
    refine dw_s (pc' := 11) [] rfl (fun _ => rfl) ?_
    exact dw_j rfl (fun lv1 hv => k11 s0 x4 (x5 + (1 : Int32)) lv1 (hv.1 _ rfl) (hv.2.1 _ rfl) (hv.2.2.1 _ rfl) (hv.2.2.2.1 _ rfl) (hv.2.2.2.2.1 _ rfl))
  · refine dw_g rfl ?_
    refine dg_s (pc' := 91) [.int x6] rfl (fun _ => rfl) rfl ?_
    refine dg_s (pc' := 96) [.int x6] rfl (fun _ => rfl) rfl ?_
    refine dg_L (pc' := 98) [(4, .int x6), (3, .int s0), (0, .ref x0), (1, .long x1), (5, .int x5), (6, .int x6)] [] rfl (fun _ => rfl) rfl ?_
    refine dg_L (pc' := 101) [(5, .int (x5 + (1 : Int32))), (4, .int x6), (3, .int s0), (0, .ref x0), (1, .long x1), (6, .int x6)] [] rfl (fun _ => rfl) rfl ?_
    refine dw_s (pc' := 11) [] rfl (fun _ => rfl) ?_
    exact dw_j rfl (fun lv1 hv => k11 s0 x6 (x5 + (1 : Int32)) lv1 (hv.1 _ rfl) (hv.2.1 _ rfl) (hv.2.2.1 _ rfl) (hv.2.2.2.1 _ rfl) (hv.2.2.2.2.1 _ rfl))
noncomputable def d_X10_hardest_b68 (x0 : Nat) (x1 : Int64) (x3 : Int32) (x4 : Int32) (x5 : Int32) (x6 : Int32) (m : dc_M) : Option ((Int32 × Int32 × Int32) ⊕ Int32) :=
  (if (Int32.toInt x4) ≤ (Int32.toInt x6) then (d_X10_hardest_b81 x0 x1 x4 x5 x6 x3 m) else (d_X10_hardest_b81 x0 x1 x4 x5 x6 x5 m))
set_option maxHeartbeats 8000000 in
theorem k_X10_hardest_b68 {u : Nat} {N : Nat} {Φ : (Option ((Int32 × Int32 × Int32) ⊕ Int32)) → Option Value → dc_M → Prop} (x0 : Nat) (x1 : Int64) (x3 : Int32) (x4 : Int32) (x5 : Int32) (x6 : Int32) (m : dc_M) (kR : ∀ (v : Int32), Φ (some (Sum.inr (v))) (some (.int v)) m) (k11 : ∀ (x3 : Int32) (x4 : Int32) (x5 : Int32) (lv : ab_L), ab_lk lv 0 = some (.ref x0) → ab_lk lv 1 = some (.long x1) → ab_lk lv 3 = some (.int x3) → ab_lk lv 4 = some (.int x4) → ab_lk lv 5 = some (.int x5) →  dc_pv u N ab_M_X10_hardest 11 lv [] m (Φ (some (Sum.inl (x3, x4, x5))))) {lv : ab_L} (f0 : ab_lk lv 0 = some (.ref x0)) (f1 : ab_lk lv 1 = some (.long x1)) (f3 : ab_lk lv 3 = some (.int x3)) (f4 : ab_lk lv 4 = some (.int x4)) (f5 : ab_lk lv 5 = some (.int x5)) (f6 : ab_lk lv 6 = some (.int x6)) : dc_pv u N ab_M_X10_hardest 68 lv [] m (Φ (d_X10_hardest_b68 x0 x1 x3 x4 x5 x6 m)) := by
  refine dc_pv.mono (dc_ok (C := C_X10_hardest) (S := S_X10_hardest) CO_X10_hardest 400 68 [(0, .ref x0), (1, .long x1), (3, .int x3), (4, .int x4), (5, .int x5), (6, .int x6)] lv [] m (dc_sub_cons f0 (dc_sub_cons f1 (dc_sub_cons f3 (dc_sub_cons f4 (dc_sub_cons f5 (dc_sub_cons f6 (dc_sub_nil))))))) ?_) (Nat.le_succ N)
  unfold d_X10_hardest_b68
  refine dg_s (pc' := 70) [.int x6] rfl (fun _ => rfl) rfl ?_
  refine dg_s (pc' := 72) [.int x4, .int x6] rfl (fun _ => rfl) rfl ?_
  refine dw_if (fun t => Φ t) ((Int32.toInt x4) ≤ (Int32.toInt x6)) [] 80 75 rfl (fun _ => rfl) (fun c0 => ?_) (fun c0 => ?_)
  · refine dw_g rfl ?_
    refine dw_s (pc' := 81) [.int x3] rfl (fun _ => rfl) ?_
    exact dw_j rfl (fun lv1 hv => k_X10_hardest_b81 (Φ := (fun t => Φ t)) x0 x1 x4 x5 x6 x3 m (fun _a  => kR _a) k11 (hv.1 _ rfl) (hv.2.1 _ rfl) (hv.2.2.1 _ rfl) (hv.2.2.2.1 _ rfl) (hv.2.2.2.2.1 _ rfl))
  · refine dw_g rfl ?_
    refine dg_s (pc' := 77) [.int x5] rfl (fun _ => rfl) rfl ?_
    refine dw_s (pc' := 81) [.int x5] rfl (fun _ => rfl) ?_
    exact dw_j rfl (fun lv1 hv => k_X10_hardest_b81 (Φ := (fun t => Φ t)) x0 x1 x4 x5 x6 x5 m (fun _a  => kR _a) k11 (hv.1 _ rfl) (hv.2.1 _ rfl) (hv.2.2.1 _ rfl) (hv.2.2.2.1 _ rfl) (hv.2.2.2.2.1 _ rfl))
noncomputable def d_X10_hardest_l35b (x0 : Nat) (x1 : Int64) (x3 : Int32) (x4 : Int32) (x5 : Int32) (x6 : Int32) (x7 : Int32) (m : dc_M) : Option ((Int32 × Int32) ⊕ ((Int32 × Int32 × Int32) ⊕ Int32)) :=
  (if (Int32.toInt (m.1 x0 49)) ≤ (Int32.toInt x7) then ((d_X10_hardest_b68 x0 x1 x3 x4 x5 x6 m).map (fun z => Sum.inr (z))) else some (Sum.inl ((x6 + (Int64.toInt32 (((m.2.1 (x0 + 22) (Int32.toNatClampNeg x7)) >>> (Int32.toInt64 x5 &&& 63)) &&& (1 : Int64)))), (x7 + (1 : Int32)))))
noncomputable def d_X10_hardest_l35s (x0 : Nat) (x1 : Int64) (x3 : Int32) (x4 : Int32) (x5 : Int32) (m : dc_M) : (Int32 × Int32) → Option ((Int32 × Int32) ⊕ ((Int32 × Int32 × Int32) ⊕ Int32)) := fun s => d_X10_hardest_l35b x0 x1 x3 x4 x5 s.1 s.2 m
noncomputable def d_X10_hardest_l35 (x0 : Nat) (x1 : Int64) (x3 : Int32) (x4 : Int32) (x5 : Int32) (x6 : Int32) (x7 : Int32) (m : dc_M) : Option ((Int32 × Int32 × Int32) ⊕ Int32) := dc_lp (d_X10_hardest_l35s x0 x1 x3 x4 x5 m) (x6, x7)
set_option maxHeartbeats 8000000 in
theorem k_X10_hardest_l35 {u : Nat} {Φ : (Option ((Int32 × Int32 × Int32) ⊕ Int32)) → Option Value → dc_M → Prop} (x0 : Nat) (x1 : Int64) (x3 : Int32) (x4 : Int32) (x5 : Int32) (m : dc_M) (kR : ∀ (v : Int32), Φ (some (Sum.inr (v))) (some (.int v)) m) : ∀ (N : Nat), (∀ (x3 : Int32) (x4 : Int32) (x5 : Int32) (lv : ab_L), ab_lk lv 0 = some (.ref x0) → ab_lk lv 1 = some (.long x1) → ab_lk lv 3 = some (.int x3) → ab_lk lv 4 = some (.int x4) → ab_lk lv 5 = some (.int x5) →  dc_pv u N ab_M_X10_hardest 11 lv [] m (Φ (some (Sum.inl (x3, x4, x5))))) → ∀ (x6 : Int32) (x7 : Int32) (lv : ab_L), ab_lk lv 0 = some (.ref x0) → ab_lk lv 1 = some (.long x1) → ab_lk lv 3 = some (.int x3) → ab_lk lv 4 = some (.int x4) → ab_lk lv 5 = some (.int x5) → ab_lk lv 6 = some (.int x6) → ab_lk lv 7 = some (.int x7) → dc_pv u N ab_M_X10_hardest 35 lv [] m (Φ (d_X10_hardest_l35 x0 x1 x3 x4 x5 x6 x7 m)) := by
  intro N
  induction N with
  | zero => intros; exact dc_pv_zero
  | succ N ih =>
    intro k11 x6 x7 lv f0 f1 f3 f4 f5 f6 f7
    have k11 := fun a0 a1 a2 a3 a4 a5 a6 a7 a8 => (k11 a0 a1 a2 a3 a4 a5 a6 a7 a8).mono (Nat.le_succ N)
    have ih := ih k11
    refine dc_ok (C := C_X10_hardest) (S := S_X10_hardest) CO_X10_hardest 400 35 [(0, .ref x0), (1, .long x1), (3, .int x3), (4, .int x4), (5, .int x5), (6, .int x6), (7, .int x7)] lv [] m (dc_sub_cons f0 (dc_sub_cons f1 (dc_sub_cons f3 (dc_sub_cons f4 (dc_sub_cons f5 (dc_sub_cons f6 (dc_sub_cons f7 (dc_sub_nil)))))))) ?_
    unfold d_X10_hardest_l35
    rw [dc_lp_eq]
    show (fun t x => dc_lf u N ab_M_X10_hardest (Φ (Option.bind t (dc_bk (d_X10_hardest_l35s x0 x1 x3 x4 x5 m)))) x) (d_X10_hardest_l35b x0 x1 x3 x4 x5 x6 x7 m) _
    dsimp only
    unfold d_X10_hardest_l35b
    refine dg_s (pc' := 37) [.int x7] rfl (fun _ => rfl) rfl ?_
    refine dg_s (pc' := 38) [.ref x0, .int x7] rfl (fun _ => rfl) rfl ?_
    refine dg_s (pc' := 41) [.int (m.1 x0 49), .int x7] rfl (fun _ => rfl) rfl ?_
    refine dw_if (fun t => Φ (Option.bind t (dc_bk (d_X10_hardest_l35s x0 x1 x3 x4 x5 m)))) ((Int32.toInt (m.1 x0 49)) ≤ (Int32.toInt x7)) [] 68 44 rfl (fun _ => rfl) (fun c0 => ?_) (fun c0 => ?_)
    · exact dw_j rfl (fun lv1 hv => k_X10_hardest_b68 (Φ := (fun t => Φ (Option.bind (t.map (fun z => Sum.inr (z))) (dc_bk (d_X10_hardest_l35s x0 x1 x3 x4 x5 m))))) x0 x1 x3 x4 x5 x6 m (fun _a  => kR _a) k11 (hv.1 _ rfl) (hv.2.1 _ rfl) (hv.2.2.1 _ rfl) (hv.2.2.2.1 _ rfl) (hv.2.2.2.2.1 _ rfl) (hv.2.2.2.2.2.1 _ rfl))
    · refine dw_g rfl ?_
      refine dg_s (pc' := 46) [.int x6] rfl (fun _ => rfl) rfl ?_
      refine dg_s (pc' := 47) [.ref x0, .int x6] rfl (fun _ => rfl) rfl ?_
      refine dg_s (pc' := 50) [.ref (x0 + 22), .int x6] rfl (fun _ => rfl) rfl ?_
      refine dg_s (pc' := 52) [.int x7, .ref (x0 + 22), .int x6] rfl (fun _ => rfl) rfl ?_
      refine dg_s (pc' := 53) [.long (m.2.1 (x0 + 22) (Int32.toNatClampNeg x7)), .int x6] rfl (fun _ => rfl) rfl ?_
      refine dg_s (pc' := 55) [.int x5, .long (m.2.1 (x0 + 22) (Int32.toNatClampNeg x7)), .int x6] rfl (fun _ => rfl) rfl ?_
      refine dg_s (pc' := 56) [.long ((m.2.1 (x0 + 22) (Int32.toNatClampNeg x7)) >>> (Int32.toInt64 x5 &&& 63)), .int x6] rfl (fun _ => rfl) rfl ?_
      refine dg_s (pc' := 57) [.long (1 : Int64), .long ((m.2.1 (x0 + 22) (Int32.toNatClampNeg x7)) >>> (Int32.toInt64 x5 &&& 63)), .int x6] rfl (fun _ => rfl) rfl ?_
      refine dg_s (pc' := 58) [.long (((m.2.1 (x0 + 22) (Int32.toNatClampNeg x7)) >>> (Int32.toInt64 x5 &&& 63)) &&& (1 : Int64)), .int x6] rfl (fun _ => rfl) rfl ?_
      refine dg_s (pc' := 59) [.int (Int64.toInt32 (((m.2.1 (x0 + 22) (Int32.toNatClampNeg x7)) >>> (Int32.toInt64 x5 &&& 63)) &&& (1 : Int64))), .int x6] rfl (fun _ => rfl) rfl ?_
      refine dg_s (pc' := 60) [.int (x6 + (Int64.toInt32 (((m.2.1 (x0 + 22) (Int32.toNatClampNeg x7)) >>> (Int32.toInt64 x5 &&& 63)) &&& (1 : Int64))))] rfl (fun _ => rfl) rfl ?_
      refine dg_L (pc' := 62) [(6, .int (x6 + (Int64.toInt32 (((m.2.1 (x0 + 22) (Int32.toNatClampNeg x7)) >>> (Int32.toInt64 x5 &&& 63)) &&& (1 : Int64))))), (0, .ref x0), (1, .long x1), (3, .int x3), (4, .int x4), (5, .int x5), (7, .int x7)] [] rfl (fun _ => rfl) rfl ?_
      refine dg_L (pc' := 65) [(7, .int (x7 + (1 : Int32))), (6, .int (x6 + (Int64.toInt32 (((m.2.1 (x0 + 22) (Int32.toNatClampNeg x7)) >>> (Int32.toInt64 x5 &&& 63)) &&& (1 : Int64))))), (0, .ref x0), (1, .long x1), (3, .int x3), (4, .int x4), (5, .int x5)] [] rfl (fun _ => rfl) rfl ?_
      refine dw_s (pc' := 35) [] rfl (fun _ => rfl) ?_
      exact dw_j rfl (fun lv1 hv => ih (x6 + (Int64.toInt32 (((m.2.1 (x0 + 22) (Int32.toNatClampNeg x7)) >>> (Int32.toInt64 x5 &&& 63)) &&& (1 : Int64)))) (x7 + (1 : Int32)) lv1 (hv.1 _ rfl) (hv.2.1 _ rfl) (hv.2.2.1 _ rfl) (hv.2.2.2.1 _ rfl) (hv.2.2.2.2.1 _ rfl) (hv.2.2.2.2.2.1 _ rfl) (hv.2.2.2.2.2.2.1 _ rfl))
noncomputable def d_X10_hardest_l11b (x0 : Nat) (x1 : Int64) (x3 : Int32) (x4 : Int32) (x5 : Int32) (m : dc_M) : Option ((Int32 × Int32 × Int32) ⊕ Int32) :=
  (if 64 ≤ (Int32.toInt x5) then some (Sum.inr (x3)) else (if ¬ (Int32.toInt (lg_cmp ((x1 >>> (Int32.toInt64 x5 &&& 63)) &&& (1 : Int64)) (1 : Int64))) = 0 then some (Sum.inl (x3, x4, (x5 + (1 : Int32)))) else (d_X10_hardest_l35 x0 x1 x3 x4 x5 (0 : Int32) (0 : Int32) m)))
noncomputable def d_X10_hardest_l11s (x0 : Nat) (x1 : Int64) (m : dc_M) : (Int32 × Int32 × Int32) → Option ((Int32 × Int32 × Int32) ⊕ Int32) := fun s => d_X10_hardest_l11b x0 x1 s.1 s.2.1 s.2.2 m
noncomputable def d_X10_hardest_l11 (x0 : Nat) (x1 : Int64) (x3 : Int32) (x4 : Int32) (x5 : Int32) (m : dc_M) : Option Int32 := dc_lp (d_X10_hardest_l11s x0 x1 m) (x3, x4, x5)
set_option maxHeartbeats 8000000 in
theorem k_X10_hardest_l11 {u : Nat} {Φ : (Option Int32) → Option Value → dc_M → Prop} (x0 : Nat) (x1 : Int64) (m : dc_M) (kR : ∀ (v : Int32), Φ (some (v)) (some (.int v)) m) : ∀ (N : Nat), ∀ (x3 : Int32) (x4 : Int32) (x5 : Int32) (lv : ab_L), ab_lk lv 0 = some (.ref x0) → ab_lk lv 1 = some (.long x1) → ab_lk lv 3 = some (.int x3) → ab_lk lv 4 = some (.int x4) → ab_lk lv 5 = some (.int x5) → dc_pv u N ab_M_X10_hardest 11 lv [] m (Φ (d_X10_hardest_l11 x0 x1 x3 x4 x5 m)) := by
  intro N
  induction N with
  | zero => intros; exact dc_pv_zero
  | succ N ih =>
    intro x3 x4 x5 lv f0 f1 f3 f4 f5
    refine dc_ok (C := C_X10_hardest) (S := S_X10_hardest) CO_X10_hardest 400 11 [(0, .ref x0), (1, .long x1), (3, .int x3), (4, .int x4), (5, .int x5)] lv [] m (dc_sub_cons f0 (dc_sub_cons f1 (dc_sub_cons f3 (dc_sub_cons f4 (dc_sub_cons f5 (dc_sub_nil)))))) ?_
    unfold d_X10_hardest_l11
    rw [dc_lp_eq]
    show (fun t x => dc_lf u N ab_M_X10_hardest (Φ (Option.bind t (dc_bk (d_X10_hardest_l11s x0 x1 m)))) x) (d_X10_hardest_l11b x0 x1 x3 x4 x5 m) _
    dsimp only
    unfold d_X10_hardest_l11b
    refine dg_s (pc' := 13) [.int x5] rfl (fun _ => rfl) rfl ?_
    refine dg_s (pc' := 15) [.int (64 : Int32), .int x5] rfl (fun _ => rfl) rfl ?_
    refine dw_if (fun t => Φ (Option.bind t (dc_bk (d_X10_hardest_l11s x0 x1 m)))) (64 ≤ (Int32.toInt x5)) [] 104 18 rfl (fun _ => rfl) (fun c0 => ?_) (fun c0 => ?_)
    · refine dw_g rfl ?_
      refine dg_s (pc' := 105) [.int x3] rfl (fun _ => rfl) rfl ?_
      exact dw_r (some (.inl (some (.int x3), m))) rfl (fun _ => rfl) (kR _)
    · refine dw_g rfl ?_
      refine dg_s (pc' := 19) [.long x1] rfl (fun _ => rfl) rfl ?_
      refine dg_s (pc' := 21) [.int x5, .long x1] rfl (fun _ => rfl) rfl ?_
      refine dg_s (pc' := 22) [.long (x1 >>> (Int32.toInt64 x5 &&& 63))] rfl (fun _ => rfl) rfl ?_
      refine dg_s (pc' := 23) [.long (1 : Int64), .long (x1 >>> (Int32.toInt64 x5 &&& 63))] rfl (fun _ => rfl) rfl ?_
      refine dg_s (pc' := 24) [.long ((x1 >>> (Int32.toInt64 x5 &&& 63)) &&& (1 : Int64))] rfl (fun _ => rfl) rfl ?_
      refine dg_s (pc' := 25) [.long (1 : Int64), .long ((x1 >>> (Int32.toInt64 x5 &&& 63)) &&& (1 : Int64))] rfl (fun _ => rfl) rfl ?_
      refine dg_s (pc' := 26) [.int (lg_cmp ((x1 >>> (Int32.toInt64 x5 &&& 63)) &&& (1 : Int64)) (1 : Int64))] rfl (fun _ => rfl) rfl ?_
      refine dw_if (fun t => Φ (Option.bind t (dc_bk (d_X10_hardest_l11s x0 x1 m)))) (¬ (Int32.toInt (lg_cmp ((x1 >>> (Int32.toInt64 x5 &&& 63)) &&& (1 : Int64)) (1 : Int64))) = 0) [] 98 29 rfl (fun _ => rfl) (fun c1 => ?_) (fun c1 => ?_)
      · refine dw_g rfl ?_
        refine dg_L (pc' := 101) [(5, .int (x5 + (1 : Int32))), (0, .ref x0), (1, .long x1), (3, .int x3), (4, .int x4)] [] rfl (fun _ => rfl) rfl ?_
        refine dw_s (pc' := 11) [] rfl (fun _ => rfl) ?_
        exact dw_j rfl (fun lv1 hv => ih x3 x4 (x5 + (1 : Int32)) lv1 (hv.1 _ rfl) (hv.2.1 _ rfl) (hv.2.2.1 _ rfl) (hv.2.2.2.1 _ rfl) (hv.2.2.2.2.1 _ rfl))
      · refine dw_g rfl ?_
        refine dg_s (pc' := 30) [.int (0 : Int32)] rfl (fun _ => rfl) rfl ?_
        refine dg_L (pc' := 32) [(6, .int (0 : Int32)), (0, .ref x0), (1, .long x1), (3, .int x3), (4, .int x4), (5, .int x5)] [] rfl (fun _ => rfl) rfl ?_
        refine dg_s (pc' := 33) [.int (0 : Int32)] rfl (fun _ => rfl) rfl ?_
        refine dw_L (pc' := 35) [(7, .int (0 : Int32)), (6, .int (0 : Int32)), (0, .ref x0), (1, .long x1), (3, .int x3), (4, .int x4), (5, .int x5)] [] rfl (fun _ => rfl) ?_
        exact dw_j rfl (fun lv1 hv => k_X10_hardest_l35 (Φ := (fun t => Φ (Option.bind t (dc_bk (d_X10_hardest_l11s x0 x1 m))))) x0 x1 x3 x4 x5 m (fun _a  => kR _a) N ih (0 : Int32) (0 : Int32) lv1 (hv.1 _ rfl) (hv.2.1 _ rfl) (hv.2.2.1 _ rfl) (hv.2.2.2.1 _ rfl) (hv.2.2.2.2.1 _ rfl) (hv.2.2.2.2.2.1 _ rfl) (hv.2.2.2.2.2.2.1 _ rfl))
noncomputable def d_X10_hardest (x0 : Nat) (x1 : Int64) (m : dc_M) : Option Int32 :=
  (d_X10_hardest_l11 x0 x1 (-4 : Int32) (1000 : Int32) (0 : Int32) m)
set_option maxHeartbeats 8000000 in
theorem k_X10_hardest {u : Nat} {N : Nat} {Φ : (Option Int32) → Option Value → dc_M → Prop} (x0 : Nat) (x1 : Int64) (m : dc_M) (kR : ∀ (v : Int32), Φ (some (v)) (some (.int v)) m)  {lv : ab_L} (f0 : ab_lk lv 0 = some (.ref x0)) (f1 : ab_lk lv 1 = some (.long x1)) : dc_pv u N ab_M_X10_hardest 0 lv [] m (Φ (d_X10_hardest x0 x1 m)) := by
  refine dc_pv.mono (dc_ok (C := C_X10_hardest) (S := S_X10_hardest) CO_X10_hardest 400 0 [(0, .ref x0), (1, .long x1)] lv [] m (dc_sub_cons f0 (dc_sub_cons f1 (dc_sub_nil))) ?_) (Nat.le_succ N)
  unfold d_X10_hardest
  refine dg_s (pc' := 2) [.int (-4 : Int32)] rfl (fun _ => rfl) rfl ?_
  refine dg_L (pc' := 3) [(3, .int (-4 : Int32)), (0, .ref x0), (1, .long x1)] [] rfl (fun _ => rfl) rfl ?_
  refine dg_s (pc' := 6) [.int (1000 : Int32)] rfl (fun _ => rfl) rfl ?_
  refine dg_L (pc' := 8) [(4, .int (1000 : Int32)), (3, .int (-4 : Int32)), (0, .ref x0), (1, .long x1)] [] rfl (fun _ => rfl) rfl ?_
  refine dg_s (pc' := 9) [.int (0 : Int32)] rfl (fun _ => rfl) rfl ?_
  refine dw_L (pc' := 11) [(5, .int (0 : Int32)), (4, .int (1000 : Int32)), (3, .int (-4 : Int32)), (0, .ref x0), (1, .long x1)] [] rfl (fun _ => rfl) ?_
  exact dw_j rfl (fun lv1 hv => k_X10_hardest_l11 (Φ := (fun t => Φ t)) x0 x1 m (fun _a  => kR _a) N  (-4 : Int32) (1000 : Int32) (0 : Int32) lv1 (hv.1 _ rfl) (hv.2.1 _ rfl) (hv.2.2.1 _ rfl) (hv.2.2.2.1 _ rfl) (hv.2.2.2.2.1 _ rfl))
noncomputable def H_X10_hardest : dc_H := fun As m k => match As with
  | [.ref x0, .long x1] => (d_X10_hardest x0 x1 m).bind (fun q => k (some (.int q)) m)
  | _ => dc_kz
theorem H_X10_hardest_ok {u : Nat} : dc_cok u 195 H_X10_hardest := fun M' hG N As m k P hz hP => by
  obtain rfl : ab_M_X10_hardest = M' := Option.some.inj hG
  unfold H_X10_hardest at hP
  split at hP
  · rename_i x0 x1
    exact dc_pv.imp (k_X10_hardest (Φ := fun (t : Option Int32) r m' => P (t.bind (fun q => k (some (.int q)) m)) → P (k r m')) x0 x1 m (fun _  h => h) rfl rfl) (fun r m' h => h hP)
  · exact absurd hP hz
noncomputable def C_X10_canMake : List (Nat × dc_H) := [(195, H_X10_hardest), (194, H_X10_isHopeless)]
theorem CO_X10_canMake {u : Nat} : dc_CO u C_X10_canMake := dc_CO_cons H_X10_hardest_ok (dc_CO_cons H_X10_isHopeless_ok (dc_CO_nil))
def S_X10_canMake : List (Nat × List Nat) := [(26, [0, 3, 5]), (115, [0, 3, 5]), (142, [0, 3, 5, 8]), (196, [0, 3, 5, 8])]
noncomputable def d_X10_canMake_b196 (x0 : Nat) (x3 : Int32) (x5 : Int32) (x8 : Int32) (m : dc_M) : Option ((Int32 × dc_M) ⊕ (Int32 × dc_M)) :=
  (if (Int32.toInt (m.1 x0 49)) ≤ (Int32.toInt x8) then some (Sum.inl ((x5 + (-1)), m)) else (if (Int32.toInt x3) ≤ (Int32.toInt x5) then some (Sum.inl ((x5 + (-1)), m)) else some (Sum.inl ((x5 + (1 : Int32)), (dc_wi (dc_wi (dc_wl (dc_wi m (x0 + 26) (Int32.toNatClampNeg x5) (x8 + (1 : Int32))) (x0 + 24) (Int32.toNatClampNeg (x5 + (1 : Int32))) (((dc_wi m (x0 + 26) (Int32.toNatClampNeg x5) (x8 + (1 : Int32))).2.1 (x0 + 24) (Int32.toNatClampNeg x5)) ||| ((dc_wi m (x0 + 26) (Int32.toNatClampNeg x5) (x8 + (1 : Int32))).2.1 (x0 + 22) (Int32.toNatClampNeg x8)))) (x0 + 27) (Int32.toNatClampNeg (x5 + (1 : Int32))) (((dc_wl (dc_wi m (x0 + 26) (Int32.toNatClampNeg x5) (x8 + (1 : Int32))) (x0 + 24) (Int32.toNatClampNeg (x5 + (1 : Int32))) (((dc_wi m (x0 + 26) (Int32.toNatClampNeg x5) (x8 + (1 : Int32))).2.1 (x0 + 24) (Int32.toNatClampNeg x5)) ||| ((dc_wi m (x0 + 26) (Int32.toNatClampNeg x5) (x8 + (1 : Int32))).2.1 (x0 + 22) (Int32.toNatClampNeg x8)))).1 (x0 + 27) (Int32.toNatClampNeg x5)) - ((dc_wl (dc_wi m (x0 + 26) (Int32.toNatClampNeg x5) (x8 + (1 : Int32))) (x0 + 24) (Int32.toNatClampNeg (x5 + (1 : Int32))) (((dc_wi m (x0 + 26) (Int32.toNatClampNeg x5) (x8 + (1 : Int32))).2.1 (x0 + 24) (Int32.toNatClampNeg x5)) ||| ((dc_wi m (x0 + 26) (Int32.toNatClampNeg x5) (x8 + (1 : Int32))).2.1 (x0 + 22) (Int32.toNatClampNeg x8)))).1 (x0 + 23) (Int32.toNatClampNeg x8)))) (x0 + 25) (Int32.toNatClampNeg (x5 + (1 : Int32))) (-4 : Int32))))))
set_option maxHeartbeats 8000000 in
theorem k_X10_canMake_b196 {u : Nat} {N : Nat} {Φ : (Option ((Int32 × dc_M) ⊕ (Int32 × dc_M))) → Option Value → dc_M → Prop} (x0 : Nat) (x3 : Int32) (x5 : Int32) (x8 : Int32) (m : dc_M) (kR : ∀ (v : Int32) (m : dc_M), Φ (some (Sum.inr ((v, m)))) (some (.int v)) m) (k26 : ∀ (x5 : Int32) (m : dc_M) (lv : ab_L), ab_lk lv 0 = some (.ref x0) → ab_lk lv 3 = some (.int x3) → ab_lk lv 5 = some (.int x5) →  dc_pv u N ab_M_X10_canMake 26 lv [] m (Φ (some (Sum.inl (x5, m))))) {lv : ab_L} (f0 : ab_lk lv 0 = some (.ref x0)) (f3 : ab_lk lv 3 = some (.int x3)) (f5 : ab_lk lv 5 = some (.int x5)) (f8 : ab_lk lv 8 = some (.int x8)) : dc_pv u N ab_M_X10_canMake 196 lv [] m (Φ (d_X10_canMake_b196 x0 x3 x5 x8 m)) := by
  refine dc_pv.mono (dc_ok (C := C_X10_canMake) (S := S_X10_canMake) CO_X10_canMake 400 196 [(0, .ref x0), (3, .int x3), (5, .int x5), (8, .int x8)] lv [] m (dc_sub_cons f0 (dc_sub_cons f3 (dc_sub_cons f5 (dc_sub_cons f8 (dc_sub_nil))))) ?_) (Nat.le_succ N)
  unfold d_X10_canMake_b196
  refine dg_s (pc' := 198) [.int x8] rfl (fun _ => rfl) rfl ?_
  refine dg_s (pc' := 199) [.ref x0, .int x8] rfl (fun _ => rfl) rfl ?_
  refine dg_s (pc' := 202) [.int (m.1 x0 49), .int x8] rfl (fun _ => rfl) rfl ?_
  refine dw_if (fun t => Φ t) ((Int32.toInt (m.1 x0 49)) ≤ (Int32.toInt x8)) [] 287 205 rfl (fun _ => rfl) (fun c0 => ?_) (fun c0 => ?_)
  · refine dw_g rfl ?_
    refine dg_L (pc' := 290) [(5, .int (x5 + (-1))), (0, .ref x0), (3, .int x3), (8, .int x8)] [] rfl (fun _ => rfl) rfl ?_
    refine dw_s (pc' := 26) [] rfl (fun _ => rfl) ?_
    exact dw_j rfl (fun lv1 hv => k26 (x5 + (-1)) m lv1 (hv.1 _ rfl) (hv.2.1 _ rfl) (hv.2.2.1 _ rfl))
  · refine dw_g rfl ?_
    refine dg_s (pc' := 207) [.int x5] rfl (fun _ => rfl) rfl ?_
    refine dg_s (pc' := 208) [.int x3, .int x5] rfl (fun _ => rfl) rfl ?_
    refine dw_if (fun t => Φ t) ((Int32.toInt x3) ≤ (Int32.toInt x5)) [] 287 211 rfl (fun _ => rfl) (fun c1 => ?_) (fun c1 => ?_)
    · refine dw_g rfl ?_
      refine dg_L (pc' := 290) [(5, .int (x5 + (-1))), (0, .ref x0), (3, .int x3), (8, .int x8)] [] rfl (fun _ => rfl) rfl ?_
      refine dw_s (pc' := 26) [] rfl (fun _ => rfl) ?_
      exact dw_j rfl (fun lv1 hv => k26 (x5 + (-1)) m lv1 (hv.1 _ rfl) (hv.2.1 _ rfl) (hv.2.2.1 _ rfl))
    · refine dw_g rfl ?_
      refine dg_s (pc' := 212) [.ref x0] rfl (fun _ => rfl) rfl ?_
      refine dg_s (pc' := 215) [.ref (x0 + 26)] rfl (fun _ => rfl) rfl ?_
      refine dg_s (pc' := 217) [.int x5, .ref (x0 + 26)] rfl (fun _ => rfl) rfl ?_
      refine dg_s (pc' := 219) [.int x8, .int x5, .ref (x0 + 26)] rfl (fun _ => rfl) rfl ?_
      refine dg_s (pc' := 220) [.int (1 : Int32), .int x8, .int x5, .ref (x0 + 26)] rfl (fun _ => rfl) rfl ?_
      refine dg_s (pc' := 221) [.int (x8 + (1 : Int32)), .int x5, .ref (x0 + 26)] rfl (fun _ => rfl) rfl ?_
      refine dg_m (pc' := 222) (dc_wi m (x0 + 26) (Int32.toNatClampNeg x5) (x8 + (1 : Int32))) [] rfl (fun _ => rfl) rfl ?_
      refine dg_s (pc' := 223) [.ref x0] rfl (fun _ => rfl) rfl ?_
      refine dg_s (pc' := 226) [.ref (x0 + 24)] rfl (fun _ => rfl) rfl ?_
      refine dg_s (pc' := 228) [.int x5, .ref (x0 + 24)] rfl (fun _ => rfl) rfl ?_
      refine dg_s (pc' := 229) [.int (1 : Int32), .int x5, .ref (x0 + 24)] rfl (fun _ => rfl) rfl ?_
      refine dg_s (pc' := 230) [.int (x5 + (1 : Int32)), .ref (x0 + 24)] rfl (fun _ => rfl) rfl ?_
      refine dg_s (pc' := 231) [.ref x0, .int (x5 + (1 : Int32)), .ref (x0 + 24)] rfl (fun _ => rfl) rfl ?_
      refine dg_s (pc' := 234) [.ref (x0 + 24), .int (x5 + (1 : Int32)), .ref (x0 + 24)] rfl (fun _ => rfl) rfl ?_
      refine dg_s (pc' := 236) [.int x5, .ref (x0 + 24), .int (x5 + (1 : Int32)), .ref (x0 + 24)] rfl (fun _ => rfl) rfl ?_
      refine dg_s (pc' := 237) [.long ((dc_wi m (x0 + 26) (Int32.toNatClampNeg x5) (x8 + (1 : Int32))).2.1 (x0 + 24) (Int32.toNatClampNeg x5)), .int (x5 + (1 : Int32)), .ref (x0 + 24)] rfl (fun _ => rfl) rfl ?_
      refine dg_s (pc' := 238) [.ref x0, .long ((dc_wi m (x0 + 26) (Int32.toNatClampNeg x5) (x8 + (1 : Int32))).2.1 (x0 + 24) (Int32.toNatClampNeg x5)), .int (x5 + (1 : Int32)), .ref (x0 + 24)] rfl (fun _ => rfl) rfl ?_
      refine dg_s (pc' := 241) [.ref (x0 + 22), .long ((dc_wi m (x0 + 26) (Int32.toNatClampNeg x5) (x8 + (1 : Int32))).2.1 (x0 + 24) (Int32.toNatClampNeg x5)), .int (x5 + (1 : Int32)), .ref (x0 + 24)] rfl (fun _ => rfl) rfl ?_
      refine dg_s (pc' := 243) [.int x8, .ref (x0 + 22), .long ((dc_wi m (x0 + 26) (Int32.toNatClampNeg x5) (x8 + (1 : Int32))).2.1 (x0 + 24) (Int32.toNatClampNeg x5)), .int (x5 + (1 : Int32)), .ref (x0 + 24)] rfl (fun _ => rfl) rfl ?_
      refine dg_s (pc' := 244) [.long ((dc_wi m (x0 + 26) (Int32.toNatClampNeg x5) (x8 + (1 : Int32))).2.1 (x0 + 22) (Int32.toNatClampNeg x8)), .long ((dc_wi m (x0 + 26) (Int32.toNatClampNeg x5) (x8 + (1 : Int32))).2.1 (x0 + 24) (Int32.toNatClampNeg x5)), .int (x5 + (1 : Int32)), .ref (x0 + 24)] rfl (fun _ => rfl) rfl ?_
      refine dg_s (pc' := 245) [.long (((dc_wi m (x0 + 26) (Int32.toNatClampNeg x5) (x8 + (1 : Int32))).2.1 (x0 + 24) (Int32.toNatClampNeg x5)) ||| ((dc_wi m (x0 + 26) (Int32.toNatClampNeg x5) (x8 + (1 : Int32))).2.1 (x0 + 22) (Int32.toNatClampNeg x8))), .int (x5 + (1 : Int32)), .ref (x0 + 24)] rfl (fun _ => rfl) rfl ?_
      refine dg_m (pc' := 246) (dc_wl (dc_wi m (x0 + 26) (Int32.toNatClampNeg x5) (x8 + (1 : Int32))) (x0 + 24) (Int32.toNatClampNeg (x5 + (1 : Int32))) (((dc_wi m (x0 + 26) (Int32.toNatClampNeg x5) (x8 + (1 : Int32))).2.1 (x0 + 24) (Int32.toNatClampNeg x5)) ||| ((dc_wi m (x0 + 26) (Int32.toNatClampNeg x5) (x8 + (1 : Int32))).2.1 (x0 + 22) (Int32.toNatClampNeg x8)))) [] rfl (fun _ => rfl) rfl ?_
      refine dg_s (pc' := 247) [.ref x0] rfl (fun _ => rfl) rfl ?_
      refine dg_s (pc' := 250) [.ref (x0 + 27)] rfl (fun _ => rfl) rfl ?_
      refine dg_s (pc' := 252) [.int x5, .ref (x0 + 27)] rfl (fun _ => rfl) rfl ?_
      refine dg_s (pc' := 253) [.int (1 : Int32), .int x5, .ref (x0 + 27)] rfl (fun _ => rfl) rfl ?_
      refine dg_s (pc' := 254) [.int (x5 + (1 : Int32)), .ref (x0 + 27)] rfl (fun _ => rfl) rfl ?_
      refine dg_s (pc' := 255) [.ref x0, .int (x5 + (1 : Int32)), .ref (x0 + 27)] rfl (fun _ => rfl) rfl ?_
      refine dg_s (pc' := 258) [.ref (x0 + 27), .int (x5 + (1 : Int32)), .ref (x0 + 27)] rfl (fun _ => rfl) rfl ?_
      refine dg_s (pc' := 260) [.int x5, .ref (x0 + 27), .int (x5 + (1 : Int32)), .ref (x0 + 27)] rfl (fun _ => rfl) rfl ?_
      refine dg_s (pc' := 261) [.int ((dc_wl (dc_wi m (x0 + 26) (Int32.toNatClampNeg x5) (x8 + (1 : Int32))) (x0 + 24) (Int32.toNatClampNeg (x5 + (1 : Int32))) (((dc_wi m (x0 + 26) (Int32.toNatClampNeg x5) (x8 + (1 : Int32))).2.1 (x0 + 24) (Int32.toNatClampNeg x5)) ||| ((dc_wi m (x0 + 26) (Int32.toNatClampNeg x5) (x8 + (1 : Int32))).2.1 (x0 + 22) (Int32.toNatClampNeg x8)))).1 (x0 + 27) (Int32.toNatClampNeg x5)), .int (x5 + (1 : Int32)), .ref (x0 + 27)] rfl (fun _ => rfl) rfl ?_
      refine dg_s (pc' := 262) [.ref x0, .int ((dc_wl (dc_wi m (x0 + 26) (Int32.toNatClampNeg x5) (x8 + (1 : Int32))) (x0 + 24) (Int32.toNatClampNeg (x5 + (1 : Int32))) (((dc_wi m (x0 + 26) (Int32.toNatClampNeg x5) (x8 + (1 : Int32))).2.1 (x0 + 24) (Int32.toNatClampNeg x5)) ||| ((dc_wi m (x0 + 26) (Int32.toNatClampNeg x5) (x8 + (1 : Int32))).2.1 (x0 + 22) (Int32.toNatClampNeg x8)))).1 (x0 + 27) (Int32.toNatClampNeg x5)), .int (x5 + (1 : Int32)), .ref (x0 + 27)] rfl (fun _ => rfl) rfl ?_
      refine dg_s (pc' := 265) [.ref (x0 + 23), .int ((dc_wl (dc_wi m (x0 + 26) (Int32.toNatClampNeg x5) (x8 + (1 : Int32))) (x0 + 24) (Int32.toNatClampNeg (x5 + (1 : Int32))) (((dc_wi m (x0 + 26) (Int32.toNatClampNeg x5) (x8 + (1 : Int32))).2.1 (x0 + 24) (Int32.toNatClampNeg x5)) ||| ((dc_wi m (x0 + 26) (Int32.toNatClampNeg x5) (x8 + (1 : Int32))).2.1 (x0 + 22) (Int32.toNatClampNeg x8)))).1 (x0 + 27) (Int32.toNatClampNeg x5)), .int (x5 + (1 : Int32)), .ref (x0 + 27)] rfl (fun _ => rfl) rfl ?_
      refine dg_s (pc' := 267) [.int x8, .ref (x0 + 23), .int ((dc_wl (dc_wi m (x0 + 26) (Int32.toNatClampNeg x5) (x8 + (1 : Int32))) (x0 + 24) (Int32.toNatClampNeg (x5 + (1 : Int32))) (((dc_wi m (x0 + 26) (Int32.toNatClampNeg x5) (x8 + (1 : Int32))).2.1 (x0 + 24) (Int32.toNatClampNeg x5)) ||| ((dc_wi m (x0 + 26) (Int32.toNatClampNeg x5) (x8 + (1 : Int32))).2.1 (x0 + 22) (Int32.toNatClampNeg x8)))).1 (x0 + 27) (Int32.toNatClampNeg x5)), .int (x5 + (1 : Int32)), .ref (x0 + 27)] rfl (fun _ => rfl) rfl ?_
      refine dg_s (pc' := 268) [.int ((dc_wl (dc_wi m (x0 + 26) (Int32.toNatClampNeg x5) (x8 + (1 : Int32))) (x0 + 24) (Int32.toNatClampNeg (x5 + (1 : Int32))) (((dc_wi m (x0 + 26) (Int32.toNatClampNeg x5) (x8 + (1 : Int32))).2.1 (x0 + 24) (Int32.toNatClampNeg x5)) ||| ((dc_wi m (x0 + 26) (Int32.toNatClampNeg x5) (x8 + (1 : Int32))).2.1 (x0 + 22) (Int32.toNatClampNeg x8)))).1 (x0 + 23) (Int32.toNatClampNeg x8)), .int ((dc_wl (dc_wi m (x0 + 26) (Int32.toNatClampNeg x5) (x8 + (1 : Int32))) (x0 + 24) (Int32.toNatClampNeg (x5 + (1 : Int32))) (((dc_wi m (x0 + 26) (Int32.toNatClampNeg x5) (x8 + (1 : Int32))).2.1 (x0 + 24) (Int32.toNatClampNeg x5)) ||| ((dc_wi m (x0 + 26) (Int32.toNatClampNeg x5) (x8 + (1 : Int32))).2.1 (x0 + 22) (Int32.toNatClampNeg x8)))).1 (x0 + 27) (Int32.toNatClampNeg x5)), .int (x5 + (1 : Int32)), .ref (x0 + 27)] rfl (fun _ => rfl) rfl ?_
      refine dg_s (pc' := 269) [.int (((dc_wl (dc_wi m (x0 + 26) (Int32.toNatClampNeg x5) (x8 + (1 : Int32))) (x0 + 24) (Int32.toNatClampNeg (x5 + (1 : Int32))) (((dc_wi m (x0 + 26) (Int32.toNatClampNeg x5) (x8 + (1 : Int32))).2.1 (x0 + 24) (Int32.toNatClampNeg x5)) ||| ((dc_wi m (x0 + 26) (Int32.toNatClampNeg x5) (x8 + (1 : Int32))).2.1 (x0 + 22) (Int32.toNatClampNeg x8)))).1 (x0 + 27) (Int32.toNatClampNeg x5)) - ((dc_wl (dc_wi m (x0 + 26) (Int32.toNatClampNeg x5) (x8 + (1 : Int32))) (x0 + 24) (Int32.toNatClampNeg (x5 + (1 : Int32))) (((dc_wi m (x0 + 26) (Int32.toNatClampNeg x5) (x8 + (1 : Int32))).2.1 (x0 + 24) (Int32.toNatClampNeg x5)) ||| ((dc_wi m (x0 + 26) (Int32.toNatClampNeg x5) (x8 + (1 : Int32))).2.1 (x0 + 22) (Int32.toNatClampNeg x8)))).1 (x0 + 23) (Int32.toNatClampNeg x8))), .int (x5 + (1 : Int32)), .ref (x0 + 27)] rfl (fun _ => rfl) rfl ?_
      refine dg_m (pc' := 270) (dc_wi (dc_wl (dc_wi m (x0 + 26) (Int32.toNatClampNeg x5) (x8 + (1 : Int32))) (x0 + 24) (Int32.toNatClampNeg (x5 + (1 : Int32))) (((dc_wi m (x0 + 26) (Int32.toNatClampNeg x5) (x8 + (1 : Int32))).2.1 (x0 + 24) (Int32.toNatClampNeg x5)) ||| ((dc_wi m (x0 + 26) (Int32.toNatClampNeg x5) (x8 + (1 : Int32))).2.1 (x0 + 22) (Int32.toNatClampNeg x8)))) (x0 + 27) (Int32.toNatClampNeg (x5 + (1 : Int32))) (((dc_wl (dc_wi m (x0 + 26) (Int32.toNatClampNeg x5) (x8 + (1 : Int32))) (x0 + 24) (Int32.toNatClampNeg (x5 + (1 : Int32))) (((dc_wi m (x0 + 26) (Int32.toNatClampNeg x5) (x8 + (1 : Int32))).2.1 (x0 + 24) (Int32.toNatClampNeg x5)) ||| ((dc_wi m (x0 + 26) (Int32.toNatClampNeg x5) (x8 + (1 : Int32))).2.1 (x0 + 22) (Int32.toNatClampNeg x8)))).1 (x0 + 27) (Int32.toNatClampNeg x5)) - ((dc_wl (dc_wi m (x0 + 26) (Int32.toNatClampNeg x5) (x8 + (1 : Int32))) (x0 + 24) (Int32.toNatClampNeg (x5 + (1 : Int32))) (((dc_wi m (x0 + 26) (Int32.toNatClampNeg x5) (x8 + (1 : Int32))).2.1 (x0 + 24) (Int32.toNatClampNeg x5)) ||| ((dc_wi m (x0 + 26) (Int32.toNatClampNeg x5) (x8 + (1 : Int32))).2.1 (x0 + 22) (Int32.toNatClampNeg x8)))).1 (x0 + 23) (Int32.toNatClampNeg x8)))) [] rfl (fun _ => rfl) rfl ?_
      refine dg_s (pc' := 271) [.ref x0] rfl (fun _ => rfl) rfl ?_
      refine dg_s (pc' := 274) [.ref (x0 + 25)] rfl (fun _ => rfl) rfl ?_
      refine dg_s (pc' := 276) [.int x5, .ref (x0 + 25)] rfl (fun _ => rfl) rfl ?_
      refine dg_s (pc' := 277) [.int (1 : Int32), .int x5, .ref (x0 + 25)] rfl (fun _ => rfl) rfl ?_
      refine dg_s (pc' := 278) [.int (x5 + (1 : Int32)), .ref (x0 + 25)] rfl (fun _ => rfl) rfl ?_
      refine dg_s (pc' := 280) [.int (-4 : Int32), .int (x5 + (1 : Int32)), .ref (x0 + 25)] rfl (fun _ => rfl) rfl ?_
      refine dg_m (pc' := 281) (dc_wi (dc_wi (dc_wl (dc_wi m (x0 + 26) (Int32.toNatClampNeg x5) (x8 + (1 : Int32))) (x0 + 24) (Int32.toNatClampNeg (x5 + (1 : Int32))) (((dc_wi m (x0 + 26) (Int32.toNatClampNeg x5) (x8 + (1 : Int32))).2.1 (x0 + 24) (Int32.toNatClampNeg x5)) ||| ((dc_wi m (x0 + 26) (Int32.toNatClampNeg x5) (x8 + (1 : Int32))).2.1 (x0 + 22) (Int32.toNatClampNeg x8)))) (x0 + 27) (Int32.toNatClampNeg (x5 + (1 : Int32))) (((dc_wl (dc_wi m (x0 + 26) (Int32.toNatClampNeg x5) (x8 + (1 : Int32))) (x0 + 24) (Int32.toNatClampNeg (x5 + (1 : Int32))) (((dc_wi m (x0 + 26) (Int32.toNatClampNeg x5) (x8 + (1 : Int32))).2.1 (x0 + 24) (Int32.toNatClampNeg x5)) ||| ((dc_wi m (x0 + 26) (Int32.toNatClampNeg x5) (x8 + (1 : Int32))).2.1 (x0 + 22) (Int32.toNatClampNeg x8)))).1 (x0 + 27) (Int32.toNatClampNeg x5)) - ((dc_wl (dc_wi m (x0 + 26) (Int32.toNatClampNeg x5) (x8 + (1 : Int32))) (x0 + 24) (Int32.toNatClampNeg (x5 + (1 : Int32))) (((dc_wi m (x0 + 26) (Int32.toNatClampNeg x5) (x8 + (1 : Int32))).2.1 (x0 + 24) (Int32.toNatClampNeg x5)) ||| ((dc_wi m (x0 + 26) (Int32.toNatClampNeg x5) (x8 + (1 : Int32))).2.1 (x0 + 22) (Int32.toNatClampNeg x8)))).1 (x0 + 23) (Int32.toNatClampNeg x8)))) (x0 + 25) (Int32.toNatClampNeg (x5 + (1 : Int32))) (-4 : Int32)) [] rfl (fun _ => rfl) rfl ?_
      refine dg_L (pc' := 284) [(5, .int (x5 + (1 : Int32))), (0, .ref x0), (3, .int x3), (8, .int x8)] [] rfl (fun _ => rfl) rfl ?_
      refine dg_s (pc' := 290) [] rfl (fun _ => rfl) rfl ?_
      refine dw_s (pc' := 26) [] rfl (fun _ => rfl) ?_
      exact dw_j rfl (fun lv1 hv => k26 (x5 + (1 : Int32)) (dc_wi (dc_wi (dc_wl (dc_wi m (x0 + 26) (Int32.toNatClampNeg x5) (x8 + (1 : Int32))) (x0 + 24) (Int32.toNatClampNeg (x5 + (1 : Int32))) (((dc_wi m (x0 + 26) (Int32.toNatClampNeg x5) (x8 + (1 : Int32))).2.1 (x0 + 24) (Int32.toNatClampNeg x5)) ||| ((dc_wi m (x0 + 26) (Int32.toNatClampNeg x5) (x8 + (1 : Int32))).2.1 (x0 + 22) (Int32.toNatClampNeg x8)))) (x0 + 27) (Int32.toNatClampNeg (x5 + (1 : Int32))) (((dc_wl (dc_wi m (x0 + 26) (Int32.toNatClampNeg x5) (x8 + (1 : Int32))) (x0 + 24) (Int32.toNatClampNeg (x5 + (1 : Int32))) (((dc_wi m (x0 + 26) (Int32.toNatClampNeg x5) (x8 + (1 : Int32))).2.1 (x0 + 24) (Int32.toNatClampNeg x5)) ||| ((dc_wi m (x0 + 26) (Int32.toNatClampNeg x5) (x8 + (1 : Int32))).2.1 (x0 + 22) (Int32.toNatClampNeg x8)))).1 (x0 + 27) (Int32.toNatClampNeg x5)) - ((dc_wl (dc_wi m (x0 + 26) (Int32.toNatClampNeg x5) (x8 + (1 : Int32))) (x0 + 24) (Int32.toNatClampNeg (x5 + (1 : Int32))) (((dc_wi m (x0 + 26) (Int32.toNatClampNeg x5) (x8 + (1 : Int32))).2.1 (x0 + 24) (Int32.toNatClampNeg x5)) ||| ((dc_wi m (x0 + 26) (Int32.toNatClampNeg x5) (x8 + (1 : Int32))).2.1 (x0 + 22) (Int32.toNatClampNeg x8)))).1 (x0 + 23) (Int32.toNatClampNeg x8)))) (x0 + 25) (Int32.toNatClampNeg (x5 + (1 : Int32))) (-4 : Int32)) lv1 (hv.1 _ rfl) (hv.2.1 _ rfl) (hv.2.2.1 _ rfl))
noncomputable def d_X10_canMake_l142b (x0 : Nat) (x3 : Int32) (x5 : Int32) (x8 : Int32) (m : dc_M) : Option (Int32 ⊕ ((Int32 × dc_M) ⊕ (Int32 × dc_M))) :=
  (if (Int32.toInt (m.1 x0 49)) ≤ (Int32.toInt x8) then ((d_X10_canMake_b196 x0 x3 x5 x8 m).map (fun z => Sum.inr (z))) else (if (Int32.toInt (lg_cmp (((m.2.1 (x0 + 22) (Int32.toNatClampNeg x8)) >>> (Int32.toInt64 (m.1 (x0 + 25) (Int32.toNatClampNeg x5)) &&& 63)) &&& (1 : Int64)) (0 : Int64))) = 0 then some (Sum.inl (x8 + (1 : Int32))) else (if (Int32.toInt (m.1 (x0 + 23) (Int32.toNatClampNeg x8))) ≤ (Int32.toInt (m.1 (x0 + 27) (Int32.toNatClampNeg x5))) then ((d_X10_canMake_b196 x0 x3 x5 x8 m).map (fun z => Sum.inr (z))) else some (Sum.inl (x8 + (1 : Int32))))))
noncomputable def d_X10_canMake_l142s (x0 : Nat) (x3 : Int32) (x5 : Int32) (m : dc_M) : Int32 → Option (Int32 ⊕ ((Int32 × dc_M) ⊕ (Int32 × dc_M))) := fun s => d_X10_canMake_l142b x0 x3 x5 s m
noncomputable def d_X10_canMake_l142 (x0 : Nat) (x3 : Int32) (x5 : Int32) (x8 : Int32) (m : dc_M) : Option ((Int32 × dc_M) ⊕ (Int32 × dc_M)) := dc_lp (d_X10_canMake_l142s x0 x3 x5 m) x8
set_option maxHeartbeats 8000000 in
theorem k_X10_canMake_l142 {u : Nat} {Φ : (Option ((Int32 × dc_M) ⊕ (Int32 × dc_M))) → Option Value → dc_M → Prop} (x0 : Nat) (x3 : Int32) (x5 : Int32) (m : dc_M) (kR : ∀ (v : Int32) (m : dc_M), Φ (some (Sum.inr ((v, m)))) (some (.int v)) m) : ∀ (N : Nat), (∀ (x5 : Int32) (m : dc_M) (lv : ab_L), ab_lk lv 0 = some (.ref x0) → ab_lk lv 3 = some (.int x3) → ab_lk lv 5 = some (.int x5) →  dc_pv u N ab_M_X10_canMake 26 lv [] m (Φ (some (Sum.inl (x5, m))))) → ∀ (x8 : Int32) (lv : ab_L), ab_lk lv 0 = some (.ref x0) → ab_lk lv 3 = some (.int x3) → ab_lk lv 5 = some (.int x5) → ab_lk lv 8 = some (.int x8) → dc_pv u N ab_M_X10_canMake 142 lv [] m (Φ (d_X10_canMake_l142 x0 x3 x5 x8 m)) := by
  intro N
  induction N with
  | zero => intros; exact dc_pv_zero
  | succ N ih =>
    intro k26 x8 lv f0 f3 f5 f8
    have k26 := fun a0 a1 a2 a3 a4 a5 => (k26 a0 a1 a2 a3 a4 a5).mono (Nat.le_succ N)
    have ih := ih k26
    refine dc_ok (C := C_X10_canMake) (S := S_X10_canMake) CO_X10_canMake 400 142 [(0, .ref x0), (3, .int x3), (5, .int x5), (8, .int x8)] lv [] m (dc_sub_cons f0 (dc_sub_cons f3 (dc_sub_cons f5 (dc_sub_cons f8 (dc_sub_nil))))) ?_
    unfold d_X10_canMake_l142
    rw [dc_lp_eq]
    show (fun t x => dc_lf u N ab_M_X10_canMake (Φ (Option.bind t (dc_bk (d_X10_canMake_l142s x0 x3 x5 m)))) x) (d_X10_canMake_l142b x0 x3 x5 x8 m) _
    dsimp only
    unfold d_X10_canMake_l142b
    refine dg_s (pc' := 144) [.int x8] rfl (fun _ => rfl) rfl ?_
    refine dg_s (pc' := 145) [.ref x0, .int x8] rfl (fun _ => rfl) rfl ?_
    refine dg_s (pc' := 148) [.int (m.1 x0 49), .int x8] rfl (fun _ => rfl) rfl ?_
    refine dw_if (fun t => Φ (Option.bind t (dc_bk (d_X10_canMake_l142s x0 x3 x5 m)))) ((Int32.toInt (m.1 x0 49)) ≤ (Int32.toInt x8)) [] 196 151 rfl (fun _ => rfl) (fun c0 => ?_) (fun c0 => ?_)
    · exact dw_j rfl (fun lv1 hv => k_X10_canMake_b196 (Φ := (fun t => Φ (Option.bind (t.map (fun z => Sum.inr (z))) (dc_bk (d_X10_canMake_l142s x0 x3 x5 m))))) x0 x3 x5 x8 m (fun _a _b => kR _a _b) k26 (hv.1 _ rfl) (hv.2.1 _ rfl) (hv.2.2.1 _ rfl) (hv.2.2.2.1 _ rfl))
    · refine dw_g rfl ?_
      refine dg_s (pc' := 152) [.ref x0] rfl (fun _ => rfl) rfl ?_
      refine dg_s (pc' := 155) [.ref (x0 + 22)] rfl (fun _ => rfl) rfl ?_
      refine dg_s (pc' := 157) [.int x8, .ref (x0 + 22)] rfl (fun _ => rfl) rfl ?_
      refine dg_s (pc' := 158) [.long (m.2.1 (x0 + 22) (Int32.toNatClampNeg x8))] rfl (fun _ => rfl) rfl ?_
      refine dg_s (pc' := 159) [.ref x0, .long (m.2.1 (x0 + 22) (Int32.toNatClampNeg x8))] rfl (fun _ => rfl) rfl ?_
      refine dg_s (pc' := 162) [.ref (x0 + 25), .long (m.2.1 (x0 + 22) (Int32.toNatClampNeg x8))] rfl (fun _ => rfl) rfl ?_
      refine dg_s (pc' := 164) [.int x5, .ref (x0 + 25), .long (m.2.1 (x0 + 22) (Int32.toNatClampNeg x8))] rfl (fun _ => rfl) rfl ?_
      refine dg_s (pc' := 165) [.int (m.1 (x0 + 25) (Int32.toNatClampNeg x5)), .long (m.2.1 (x0 + 22) (Int32.toNatClampNeg x8))] rfl (fun _ => rfl) rfl ?_
      refine dg_s (pc' := 166) [.long ((m.2.1 (x0 + 22) (Int32.toNatClampNeg x8)) >>> (Int32.toInt64 (m.1 (x0 + 25) (Int32.toNatClampNeg x5)) &&& 63))] rfl (fun _ => rfl) rfl ?_
      refine dg_s (pc' := 167) [.long (1 : Int64), .long ((m.2.1 (x0 + 22) (Int32.toNatClampNeg x8)) >>> (Int32.toInt64 (m.1 (x0 + 25) (Int32.toNatClampNeg x5)) &&& 63))] rfl (fun _ => rfl) rfl ?_
      refine dg_s (pc' := 168) [.long (((m.2.1 (x0 + 22) (Int32.toNatClampNeg x8)) >>> (Int32.toInt64 (m.1 (x0 + 25) (Int32.toNatClampNeg x5)) &&& 63)) &&& (1 : Int64))] rfl (fun _ => rfl) rfl ?_
      refine dg_s (pc' := 169) [.long (0 : Int64), .long (((m.2.1 (x0 + 22) (Int32.toNatClampNeg x8)) >>> (Int32.toInt64 (m.1 (x0 + 25) (Int32.toNatClampNeg x5)) &&& 63)) &&& (1 : Int64))] rfl (fun _ => rfl) rfl ?_
      refine dg_s (pc' := 170) [.int (lg_cmp (((m.2.1 (x0 + 22) (Int32.toNatClampNeg x8)) >>> (Int32.toInt64 (m.1 (x0 + 25) (Int32.toNatClampNeg x5)) &&& 63)) &&& (1 : Int64)) (0 : Int64))] rfl (fun _ => rfl) rfl ?_
      refine dw_if (fun t => Φ (Option.bind t (dc_bk (d_X10_canMake_l142s x0 x3 x5 m)))) ((Int32.toInt (lg_cmp (((m.2.1 (x0 + 22) (Int32.toNatClampNeg x8)) >>> (Int32.toInt64 (m.1 (x0 + 25) (Int32.toNatClampNeg x5)) &&& 63)) &&& (1 : Int64)) (0 : Int64))) = 0) [] 190 173 rfl (fun _ => rfl) (fun c1 => ?_) (fun c1 => ?_)
      · refine dw_g rfl ?_
        refine dg_L (pc' := 193) [(8, .int (x8 + (1 : Int32))), (0, .ref x0), (3, .int x3), (5, .int x5)] [] rfl (fun _ => rfl) rfl ?_
        refine dw_s (pc' := 142) [] rfl (fun _ => rfl) ?_
        exact dw_j rfl (fun lv1 hv => ih (x8 + (1 : Int32)) lv1 (hv.1 _ rfl) (hv.2.1 _ rfl) (hv.2.2.1 _ rfl) (hv.2.2.2.1 _ rfl))
      · refine dw_g rfl ?_
        refine dg_s (pc' := 174) [.ref x0] rfl (fun _ => rfl) rfl ?_
        refine dg_s (pc' := 177) [.ref (x0 + 23)] rfl (fun _ => rfl) rfl ?_
        refine dg_s (pc' := 179) [.int x8, .ref (x0 + 23)] rfl (fun _ => rfl) rfl ?_
        refine dg_s (pc' := 180) [.int (m.1 (x0 + 23) (Int32.toNatClampNeg x8))] rfl (fun _ => rfl) rfl ?_
        refine dg_s (pc' := 181) [.ref x0, .int (m.1 (x0 + 23) (Int32.toNatClampNeg x8))] rfl (fun _ => rfl) rfl ?_
        refine dg_s (pc' := 184) [.ref (x0 + 27), .int (m.1 (x0 + 23) (Int32.toNatClampNeg x8))] rfl (fun _ => rfl) rfl ?_
        refine dg_s (pc' := 186) [.int x5, .ref (x0 + 27), .int (m.1 (x0 + 23) (Int32.toNatClampNeg x8))] rfl (fun _ => rfl) rfl ?_
        refine dg_s (pc' := 187) [.int (m.1 (x0 + 27) (Int32.toNatClampNeg x5)), .int (m.1 (x0 + 23) (Int32.toNatClampNeg x8))] rfl (fun _ => rfl) rfl ?_
        refine dw_if (fun t => Φ (Option.bind t (dc_bk (d_X10_canMake_l142s x0 x3 x5 m)))) ((Int32.toInt (m.1 (x0 + 23) (Int32.toNatClampNeg x8))) ≤ (Int32.toInt (m.1 (x0 + 27) (Int32.toNatClampNeg x5)))) [] 196 190 rfl (fun _ => rfl) (fun c2 => ?_) (fun c2 => ?_)
        · exact dw_j rfl (fun lv1 hv => k_X10_canMake_b196 (Φ := (fun t => Φ (Option.bind (t.map (fun z => Sum.inr (z))) (dc_bk (d_X10_canMake_l142s x0 x3 x5 m))))) x0 x3 x5 x8 m (fun _a _b => kR _a _b) k26 (hv.1 _ rfl) (hv.2.1 _ rfl) (hv.2.2.1 _ rfl) (hv.2.2.2.1 _ rfl))
        · refine dw_g rfl ?_
          refine dg_L (pc' := 193) [(8, .int (x8 + (1 : Int32))), (0, .ref x0), (3, .int x3), (5, .int x5)] [] rfl (fun _ => rfl) rfl ?_
          refine dw_s (pc' := 142) [] rfl (fun _ => rfl) ?_
          exact dw_j rfl (fun lv1 hv => ih (x8 + (1 : Int32)) lv1 (hv.1 _ rfl) (hv.2.1 _ rfl) (hv.2.2.1 _ rfl) (hv.2.2.2.1 _ rfl))
noncomputable def d_X10_canMake_b115 (x0 : Nat) (x3 : Int32) (x5 : Int32) (m : dc_M) : Option ((Int32 × dc_M) ⊕ (Int32 × dc_M)) :=
  (if ¬ (Int32.toInt (m.1 (x0 + 25) (Int32.toNatClampNeg x5))) = (-1) then (d_X10_canMake_l142 x0 x3 x5 (m.1 (x0 + 26) (Int32.toNatClampNeg x5)) m) else (d_X10_canMake_l142 x0 x3 x5 (m.1 x0 49) m))
set_option maxHeartbeats 8000000 in
theorem k_X10_canMake_b115 {u : Nat} {N : Nat} {Φ : (Option ((Int32 × dc_M) ⊕ (Int32 × dc_M))) → Option Value → dc_M → Prop} (x0 : Nat) (x3 : Int32) (x5 : Int32) (m : dc_M) (kR : ∀ (v : Int32) (m : dc_M), Φ (some (Sum.inr ((v, m)))) (some (.int v)) m) (k26 : ∀ (x5 : Int32) (m : dc_M) (lv : ab_L), ab_lk lv 0 = some (.ref x0) → ab_lk lv 3 = some (.int x3) → ab_lk lv 5 = some (.int x5) →  dc_pv u N ab_M_X10_canMake 26 lv [] m (Φ (some (Sum.inl (x5, m))))) {lv : ab_L} (f0 : ab_lk lv 0 = some (.ref x0)) (f3 : ab_lk lv 3 = some (.int x3)) (f5 : ab_lk lv 5 = some (.int x5)) : dc_pv u N ab_M_X10_canMake 115 lv [] m (Φ (d_X10_canMake_b115 x0 x3 x5 m)) := by
  refine dc_pv.mono (dc_ok (C := C_X10_canMake) (S := S_X10_canMake) CO_X10_canMake 400 115 [(0, .ref x0), (3, .int x3), (5, .int x5)] lv [] m (dc_sub_cons f0 (dc_sub_cons f3 (dc_sub_cons f5 (dc_sub_nil)))) ?_) (Nat.le_succ N)
  unfold d_X10_canMake_b115
  refine dg_s (pc' := 116) [.ref x0] rfl (fun _ => rfl) rfl ?_
  refine dg_s (pc' := 119) [.ref (x0 + 25)] rfl (fun _ => rfl) rfl ?_
  refine dg_s (pc' := 121) [.int x5, .ref (x0 + 25)] rfl (fun _ => rfl) rfl ?_
  refine dg_s (pc' := 122) [.int (m.1 (x0 + 25) (Int32.toNatClampNeg x5))] rfl (fun _ => rfl) rfl ?_
  refine dg_s (pc' := 123) [.int (-1 : Int32), .int (m.1 (x0 + 25) (Int32.toNatClampNeg x5))] rfl (fun _ => rfl) rfl ?_
  refine dw_if (fun t => Φ t) (¬ (Int32.toInt (m.1 (x0 + 25) (Int32.toNatClampNeg x5))) = (-1)) [] 133 126 rfl (fun _ => rfl) (fun c0 => ?_) (fun c0 => ?_)
  · refine dw_g rfl ?_
    refine dg_s (pc' := 134) [.ref x0] rfl (fun _ => rfl) rfl ?_
    refine dg_s (pc' := 137) [.ref (x0 + 26)] rfl (fun _ => rfl) rfl ?_
    refine dg_s (pc' := 139) [.int x5, .ref (x0 + 26)] rfl (fun _ => rfl) rfl ?_
    refine dg_s (pc' := 140) [.int (m.1 (x0 + 26) (Int32.toNatClampNeg x5))] rfl (fun _ => rfl) rfl ?_
    refine dw_L (pc' := 142) [(8, .int (m.1 (x0 + 26) (Int32.toNatClampNeg x5))), (0, .ref x0), (3, .int x3), (5, .int x5)] [] rfl (fun _ => rfl) ?_
    exact dw_j rfl (fun lv1 hv => k_X10_canMake_l142 (Φ := (fun t => Φ t)) x0 x3 x5 m (fun _a _b => kR _a _b) N k26 (m.1 (x0 + 26) (Int32.toNatClampNeg x5)) lv1 (hv.1 _ rfl) (hv.2.1 _ rfl) (hv.2.2.1 _ rfl) (hv.2.2.2.1 _ rfl))
  · refine dw_g rfl ?_
    refine dg_s (pc' := 127) [.ref x0] rfl (fun _ => rfl) rfl ?_
    refine dg_s (pc' := 130) [.int (m.1 x0 49)] rfl (fun _ => rfl) rfl ?_
    refine dg_s (pc' := 140) [.int (m.1 x0 49)] rfl (fun _ => rfl) rfl ?_
    refine dw_L (pc' := 142) [(8, .int (m.1 x0 49)), (0, .ref x0), (3, .int x3), (5, .int x5)] [] rfl (fun _ => rfl) ?_
    exact dw_j rfl (fun lv1 hv => k_X10_canMake_l142 (Φ := (fun t => Φ t)) x0 x3 x5 m (fun _a _b => kR _a _b) N k26 (m.1 x0 49) lv1 (hv.1 _ rfl) (hv.2.1 _ rfl) (hv.2.2.1 _ rfl) (hv.2.2.2.1 _ rfl))
noncomputable def d_X10_canMake_l26b (x0 : Nat) (x3 : Int32) (x5 : Int32) (m : dc_M) : Option ((Int32 × dc_M) ⊕ (Int32 × dc_M)) :=
  (if (Int32.toInt x5) < 0 then some (Sum.inr (((0 : Int32), m))) else (if ¬ (Int32.toInt (lg_cmp ((m.2.1 x0 47) &&& ((m.2.1 (x0 + 24) (Int32.toNatClampNeg x5)) ^^^ (-1 : Int64))) (0 : Int64))) = 0 then (if ¬ (Int32.toInt (m.1 (x0 + 25) (Int32.toNatClampNeg x5))) = (-4) then (d_X10_canMake_b115 x0 x3 x5 m) else ((d_X10_isHopeless x0 ((m.2.1 x0 47) &&& ((m.2.1 (x0 + 24) (Int32.toNatClampNeg x5)) ^^^ (-1 : Int64))) (x3 - x5) (m.1 (x0 + 27) (Int32.toNatClampNeg x5)) m).bind (fun q1 => (if (Int32.toInt q1) = 0 then ((d_X10_hardest x0 ((m.2.1 x0 47) &&& ((m.2.1 (x0 + 24) (Int32.toNatClampNeg x5)) ^^^ (-1 : Int64))) m).bind (fun q2 => (d_X10_canMake_b115 x0 x3 x5 (dc_wi (dc_wi m (x0 + 25) (Int32.toNatClampNeg x5) q2) (x0 + 26) (Int32.toNatClampNeg x5) (0 : Int32))))) else (d_X10_canMake_b115 x0 x3 x5 (dc_wi (dc_wi m (x0 + 25) (Int32.toNatClampNeg x5) (-1 : Int32)) (x0 + 26) (Int32.toNatClampNeg x5) (0 : Int32))))))) else some (Sum.inr (((1 : Int32), m)))))
noncomputable def d_X10_canMake_l26s (x0 : Nat) (x3 : Int32) : (Int32 × dc_M) → Option ((Int32 × dc_M) ⊕ (Int32 × dc_M)) := fun s => d_X10_canMake_l26b x0 x3 s.1 s.2
noncomputable def d_X10_canMake_l26 (x0 : Nat) (x3 : Int32) (x5 : Int32) (m : dc_M) : Option (Int32 × dc_M) := dc_lp (d_X10_canMake_l26s x0 x3) (x5, m)
set_option maxHeartbeats 8000000 in
theorem k_X10_canMake_l26 {u : Nat} {Φ : (Option (Int32 × dc_M)) → Option Value → dc_M → Prop} (x0 : Nat) (x3 : Int32) (kR : ∀ (v : Int32) (m : dc_M), Φ (some ((v, m))) (some (.int v)) m) : ∀ (N : Nat), ∀ (x5 : Int32) (m : dc_M) (lv : ab_L), ab_lk lv 0 = some (.ref x0) → ab_lk lv 3 = some (.int x3) → ab_lk lv 5 = some (.int x5) → dc_pv u N ab_M_X10_canMake 26 lv [] m (Φ (d_X10_canMake_l26 x0 x3 x5 m)) := by
  intro N
  induction N with
  | zero => intros; exact dc_pv_zero
  | succ N ih =>
    intro x5 m lv f0 f3 f5
    refine dc_ok (C := C_X10_canMake) (S := S_X10_canMake) CO_X10_canMake 400 26 [(0, .ref x0), (3, .int x3), (5, .int x5)] lv [] m (dc_sub_cons f0 (dc_sub_cons f3 (dc_sub_cons f5 (dc_sub_nil)))) ?_
    unfold d_X10_canMake_l26
    rw [dc_lp_eq]
    show (fun t x => dc_lf u N ab_M_X10_canMake (Φ (Option.bind t (dc_bk (d_X10_canMake_l26s x0 x3)))) x) (d_X10_canMake_l26b x0 x3 x5 m) _
    dsimp only
    unfold d_X10_canMake_l26b
    refine dg_s (pc' := 28) [.int x5] rfl (fun _ => rfl) rfl ?_
    refine dw_if (fun t => Φ (Option.bind t (dc_bk (d_X10_canMake_l26s x0 x3)))) ((Int32.toInt x5) < 0) [] 293 31 rfl (fun _ => rfl) (fun c0 => ?_) (fun c0 => ?_)
    · refine dw_g rfl ?_
      refine dg_s (pc' := 294) [.int (0 : Int32)] rfl (fun _ => rfl) rfl ?_
      exact dw_r (some (.inl (some (.int (0 : Int32)), m))) rfl (fun _ => rfl) (kR _ _)
    · refine dw_g rfl ?_
      refine dg_s (pc' := 32) [.ref x0] rfl (fun _ => rfl) rfl ?_
      refine dg_s (pc' := 35) [.long (m.2.1 x0 47)] rfl (fun _ => rfl) rfl ?_
      refine dg_s (pc' := 36) [.ref x0, .long (m.2.1 x0 47)] rfl (fun _ => rfl) rfl ?_
      refine dg_s (pc' := 39) [.ref (x0 + 24), .long (m.2.1 x0 47)] rfl (fun _ => rfl) rfl ?_
      refine dg_s (pc' := 41) [.int x5, .ref (x0 + 24), .long (m.2.1 x0 47)] rfl (fun _ => rfl) rfl ?_
      refine dg_s (pc' := 42) [.long (m.2.1 (x0 + 24) (Int32.toNatClampNeg x5)), .long (m.2.1 x0 47)] rfl (fun _ => rfl) rfl ?_
      refine dg_s (pc' := 45) [.long (-1 : Int64), .long (m.2.1 (x0 + 24) (Int32.toNatClampNeg x5)), .long (m.2.1 x0 47)] rfl (fun _ => rfl) rfl ?_
      refine dg_s (pc' := 46) [.long ((m.2.1 (x0 + 24) (Int32.toNatClampNeg x5)) ^^^ (-1 : Int64)), .long (m.2.1 x0 47)] rfl (fun _ => rfl) rfl ?_
      refine dg_s (pc' := 47) [.long ((m.2.1 x0 47) &&& ((m.2.1 (x0 + 24) (Int32.toNatClampNeg x5)) ^^^ (-1 : Int64)))] rfl (fun _ => rfl) rfl ?_
      refine dg_L (pc' := 49) [(6, .long ((m.2.1 x0 47) &&& ((m.2.1 (x0 + 24) (Int32.toNatClampNeg x5)) ^^^ (-1 : Int64)))), (0, .ref x0), (3, .int x3), (5, .int x5)] [] rfl (fun _ => rfl) rfl ?_
      refine dg_s (pc' := 51) [.long ((m.2.1 x0 47) &&& ((m.2.1 (x0 + 24) (Int32.toNatClampNeg x5)) ^^^ (-1 : Int64)))] rfl (fun _ => rfl) rfl ?_
      refine dg_s (pc' := 52) [.long (0 : Int64), .long ((m.2.1 x0 47) &&& ((m.2.1 (x0 + 24) (Int32.toNatClampNeg x5)) ^^^ (-1 : Int64)))] rfl (fun _ => rfl) rfl ?_
      refine dg_s (pc' := 53) [.int (lg_cmp ((m.2.1 x0 47) &&& ((m.2.1 (x0 + 24) (Int32.toNatClampNeg x5)) ^^^ (-1 : Int64))) (0 : Int64))] rfl (fun _ => rfl) rfl ?_
      refine dw_if (fun t => Φ (Option.bind t (dc_bk (d_X10_canMake_l26s x0 x3)))) (¬ (Int32.toInt (lg_cmp ((m.2.1 x0 47) &&& ((m.2.1 (x0 + 24) (Int32.toNatClampNeg x5)) ^^^ (-1 : Int64))) (0 : Int64))) = 0) [] 58 56 rfl (fun _ => rfl) (fun c1 => ?_) (fun c1 => ?_)
      · refine dw_g rfl ?_
        refine dg_s (pc' := 59) [.ref x0] rfl (fun _ => rfl) rfl ?_
        refine dg_s (pc' := 62) [.ref (x0 + 25)] rfl (fun _ => rfl) rfl ?_
        refine dg_s (pc' := 64) [.int x5, .ref (x0 + 25)] rfl (fun _ => rfl) rfl ?_
        refine dg_s (pc' := 65) [.int (m.1 (x0 + 25) (Int32.toNatClampNeg x5))] rfl (fun _ => rfl) rfl ?_
        refine dg_s (pc' := 67) [.int (-4 : Int32), .int (m.1 (x0 + 25) (Int32.toNatClampNeg x5))] rfl (fun _ => rfl) rfl ?_
        refine dw_if (fun t => Φ (Option.bind t (dc_bk (d_X10_canMake_l26s x0 x3)))) (¬ (Int32.toInt (m.1 (x0 + 25) (Int32.toNatClampNeg x5))) = (-4)) [] 115 70 rfl (fun _ => rfl) (fun c2 => ?_) (fun c2 => ?_)
        · exact dw_j rfl (fun lv1 hv => k_X10_canMake_b115 (Φ := (fun t => Φ (Option.bind t (dc_bk (d_X10_canMake_l26s x0 x3))))) x0 x3 x5 m (fun _a _b => kR _a _b) ih (hv.1 _ rfl) (hv.2.1 _ rfl) (hv.2.2.1 _ rfl))
        · refine dw_g rfl ?_
          refine dg_s (pc' := 71) [.ref x0] rfl (fun _ => rfl) rfl ?_
          refine dg_s (pc' := 74) [.ref (x0 + 25)] rfl (fun _ => rfl) rfl ?_
          refine dg_s (pc' := 76) [.int x5, .ref (x0 + 25)] rfl (fun _ => rfl) rfl ?_
          refine dg_s (pc' := 77) [.ref x0, .int x5, .ref (x0 + 25)] rfl (fun _ => rfl) rfl ?_
          refine dg_s (pc' := 79) [.long ((m.2.1 x0 47) &&& ((m.2.1 (x0 + 24) (Int32.toNatClampNeg x5)) ^^^ (-1 : Int64))), .ref x0, .int x5, .ref (x0 + 25)] rfl (fun _ => rfl) rfl ?_
          refine dg_s (pc' := 80) [.int x3, .long ((m.2.1 x0 47) &&& ((m.2.1 (x0 + 24) (Int32.toNatClampNeg x5)) ^^^ (-1 : Int64))), .ref x0, .int x5, .ref (x0 + 25)] rfl (fun _ => rfl) rfl ?_
          refine dg_s (pc' := 82) [.int x5, .int x3, .long ((m.2.1 x0 47) &&& ((m.2.1 (x0 + 24) (Int32.toNatClampNeg x5)) ^^^ (-1 : Int64))), .ref x0, .int x5, .ref (x0 + 25)] rfl (fun _ => rfl) rfl ?_
          refine dg_s (pc' := 83) [.int (x3 - x5), .long ((m.2.1 x0 47) &&& ((m.2.1 (x0 + 24) (Int32.toNatClampNeg x5)) ^^^ (-1 : Int64))), .ref x0, .int x5, .ref (x0 + 25)] rfl (fun _ => rfl) rfl ?_
          refine dg_s (pc' := 84) [.ref x0, .int (x3 - x5), .long ((m.2.1 x0 47) &&& ((m.2.1 (x0 + 24) (Int32.toNatClampNeg x5)) ^^^ (-1 : Int64))), .ref x0, .int x5, .ref (x0 + 25)] rfl (fun _ => rfl) rfl ?_
          refine dg_s (pc' := 87) [.ref (x0 + 27), .int (x3 - x5), .long ((m.2.1 x0 47) &&& ((m.2.1 (x0 + 24) (Int32.toNatClampNeg x5)) ^^^ (-1 : Int64))), .ref x0, .int x5, .ref (x0 + 25)] rfl (fun _ => rfl) rfl ?_
          refine dg_s (pc' := 89) [.int x5, .ref (x0 + 27), .int (x3 - x5), .long ((m.2.1 x0 47) &&& ((m.2.1 (x0 + 24) (Int32.toNatClampNeg x5)) ^^^ (-1 : Int64))), .ref x0, .int x5, .ref (x0 + 25)] rfl (fun _ => rfl) rfl ?_
          refine dg_s (pc' := 90) [.int (m.1 (x0 + 27) (Int32.toNatClampNeg x5)), .int (x3 - x5), .long ((m.2.1 x0 47) &&& ((m.2.1 (x0 + 24) (Int32.toNatClampNeg x5)) ^^^ (-1 : Int64))), .ref x0, .int x5, .ref (x0 + 25)] rfl (fun _ => rfl) rfl ?_
          refine dw_b (fun t => Φ (Option.bind t (dc_bk (d_X10_canMake_l26s x0 x3)))) (pc' := 93) (fun q1 => [.int q1, .int x5, .ref (x0 + 25)]) (fun q1 => m) rfl (fun _ => rfl) (fun q1 => ?_)
          refine dw_g rfl ?_
          refine dw_if (fun t => Φ (Option.bind t (dc_bk (d_X10_canMake_l26s x0 x3)))) ((Int32.toInt q1) = 0) [.int x5, .ref (x0 + 25)] 100 96 rfl (fun _ => rfl) (fun c3 => ?_) (fun c3 => ?_)
          · refine dw_g rfl ?_
            refine dg_s (pc' := 101) [.ref x0, .int x5, .ref (x0 + 25)] rfl (fun _ => rfl) rfl ?_
            refine dg_s (pc' := 103) [.long ((m.2.1 x0 47) &&& ((m.2.1 (x0 + 24) (Int32.toNatClampNeg x5)) ^^^ (-1 : Int64))), .ref x0, .int x5, .ref (x0 + 25)] rfl (fun _ => rfl) rfl ?_
            refine dw_b (fun t => Φ (Option.bind t (dc_bk (d_X10_canMake_l26s x0 x3)))) (pc' := 106) (fun q2 => [.int q2, .int x5, .ref (x0 + 25)]) (fun q2 => m) rfl (fun _ => rfl) (fun q2 => ?_)
            refine dw_g rfl ?_
            refine dg_m (pc' := 107) (dc_wi m (x0 + 25) (Int32.toNatClampNeg x5) q2) [] rfl (fun _ => rfl) rfl ?_
            refine dg_s (pc' := 108) [.ref x0] rfl (fun _ => rfl) rfl ?_
            refine dg_s (pc' := 111) [.ref (x0 + 26)] rfl (fun _ => rfl) rfl ?_
            refine dg_s (pc' := 113) [.int x5, .ref (x0 + 26)] rfl (fun _ => rfl) rfl ?_
            refine dg_s (pc' := 114) [.int (0 : Int32), .int x5, .ref (x0 + 26)] rfl (fun _ => rfl) rfl ?_
            refine dw_m (pc' := 115) (dc_wi (dc_wi m (x0 + 25) (Int32.toNatClampNeg x5) q2) (x0 + 26) (Int32.toNatClampNeg x5) (0 : Int32)) [] rfl (fun _ => rfl) ?_
            exact dw_j rfl (fun lv1 hv => k_X10_canMake_b115 (Φ := (fun t => Φ (Option.bind t (dc_bk (d_X10_canMake_l26s x0 x3))))) x0 x3 x5 (dc_wi (dc_wi m (x0 + 25) (Int32.toNatClampNeg x5) q2) (x0 + 26) (Int32.toNatClampNeg x5) (0 : Int32)) (fun _a _b => kR _a _b) ih (hv.1 _ rfl) (hv.2.1 _ rfl) (hv.2.2.1 _ rfl))
          · refine dw_g rfl ?_
            refine dg_s (pc' := 97) [.int (-1 : Int32), .int x5, .ref (x0 + 25)] rfl (fun _ => rfl) rfl ?_
            refine dg_s (pc' := 106) [.int (-1 : Int32), .int x5, .ref (x0 + 25)] rfl (fun _ => rfl) rfl ?_
            refine dg_m (pc' := 107) (dc_wi m (x0 + 25) (Int32.toNatClampNeg x5) (-1 : Int32)) [] rfl (fun _ => rfl) rfl ?_
            refine dg_s (pc' := 108) [.ref x0] rfl (fun _ => rfl) rfl ?_
            refine dg_s (pc' := 111) [.ref (x0 + 26)] rfl (fun _ => rfl) rfl ?_
            refine dg_s (pc' := 113) [.int x5, .ref (x0 + 26)] rfl (fun _ => rfl) rfl ?_
            refine dg_s (pc' := 114) [.int (0 : Int32), .int x5, .ref (x0 + 26)] rfl (fun _ => rfl) rfl ?_
            refine dw_m (pc' := 115) (dc_wi (dc_wi m (x0 + 25) (Int32.toNatClampNeg x5) (-1 : Int32)) (x0 + 26) (Int32.toNatClampNeg x5) (0 : Int32)) [] rfl (fun _ => rfl) ?_
            exact dw_j rfl (fun lv1 hv => k_X10_canMake_b115 (Φ := (fun t => Φ (Option.bind t (dc_bk (d_X10_canMake_l26s x0 x3))))) x0 x3 x5 (dc_wi (dc_wi m (x0 + 25) (Int32.toNatClampNeg x5) (-1 : Int32)) (x0 + 26) (Int32.toNatClampNeg x5) (0 : Int32)) (fun _a _b => kR _a _b) ih (hv.1 _ rfl) (hv.2.1 _ rfl) (hv.2.2.1 _ rfl))
      · refine dw_g rfl ?_
        refine dg_s (pc' := 57) [.int (1 : Int32)] rfl (fun _ => rfl) rfl ?_
        exact dw_r (some (.inl (some (.int (1 : Int32)), m))) rfl (fun _ => rfl) (kR _ _)
noncomputable def d_X10_canMake (x0 : Nat) (x1 : Int64) (x3 : Int32) (x4 : Int32) (m : dc_M) : Option (Int32 × dc_M) :=
  (d_X10_canMake_l26 x0 x3 (0 : Int32) (dc_wi (dc_wi (dc_wl m (x0 + 24) (Int32.toNatClampNeg (0 : Int32)) x1) (x0 + 27) (Int32.toNatClampNeg (0 : Int32)) x4) (x0 + 25) (Int32.toNatClampNeg (0 : Int32)) (-4 : Int32)))
set_option maxHeartbeats 8000000 in
theorem k_X10_canMake {u : Nat} {N : Nat} {Φ : (Option (Int32 × dc_M)) → Option Value → dc_M → Prop} (x0 : Nat) (x1 : Int64) (x3 : Int32) (x4 : Int32) (m : dc_M) (kR : ∀ (v : Int32) (m : dc_M), Φ (some ((v, m))) (some (.int v)) m)  {lv : ab_L} (f0 : ab_lk lv 0 = some (.ref x0)) (f1 : ab_lk lv 1 = some (.long x1)) (f3 : ab_lk lv 3 = some (.int x3)) (f4 : ab_lk lv 4 = some (.int x4)) : dc_pv u N ab_M_X10_canMake 0 lv [] m (Φ (d_X10_canMake x0 x1 x3 x4 m)) := by
  refine dc_pv.mono (dc_ok (C := C_X10_canMake) (S := S_X10_canMake) CO_X10_canMake 400 0 [(0, .ref x0), (1, .long x1), (3, .int x3), (4, .int x4)] lv [] m (dc_sub_cons f0 (dc_sub_cons f1 (dc_sub_cons f3 (dc_sub_cons f4 (dc_sub_nil))))) ?_) (Nat.le_succ N)
  unfold d_X10_canMake
  refine dg_s (pc' := 1) [.int (0 : Int32)] rfl (fun _ => rfl) rfl ?_
  refine dg_L (pc' := 3) [(5, .int (0 : Int32)), (0, .ref x0), (1, .long x1), (3, .int x3), (4, .int x4)] [] rfl (fun _ => rfl) rfl ?_
  refine dg_s (pc' := 4) [.ref x0] rfl (fun _ => rfl) rfl ?_
  refine dg_s (pc' := 7) [.ref (x0 + 24)] rfl (fun _ => rfl) rfl ?_
  refine dg_s (pc' := 8) [.int (0 : Int32), .ref (x0 + 24)] rfl (fun _ => rfl) rfl ?_
  refine dg_s (pc' := 9) [.long x1, .int (0 : Int32), .ref (x0 + 24)] rfl (fun _ => rfl) rfl ?_
  refine dg_m (pc' := 10) (dc_wl m (x0 + 24) (Int32.toNatClampNeg (0 : Int32)) x1) [] rfl (fun _ => rfl) rfl ?_
  refine dg_s (pc' := 11) [.ref x0] rfl (fun _ => rfl) rfl ?_
  refine dg_s (pc' := 14) [.ref (x0 + 27)] rfl (fun _ => rfl) rfl ?_
  refine dg_s (pc' := 15) [.int (0 : Int32), .ref (x0 + 27)] rfl (fun _ => rfl) rfl ?_
  refine dg_s (pc' := 17) [.int x4, .int (0 : Int32), .ref (x0 + 27)] rfl (fun _ => rfl) rfl ?_
  refine dg_m (pc' := 18) (dc_wi (dc_wl m (x0 + 24) (Int32.toNatClampNeg (0 : Int32)) x1) (x0 + 27) (Int32.toNatClampNeg (0 : Int32)) x4) [] rfl (fun _ => rfl) rfl ?_
  refine dg_s (pc' := 19) [.ref x0] rfl (fun _ => rfl) rfl ?_
  refine dg_s (pc' := 22) [.ref (x0 + 25)] rfl (fun _ => rfl) rfl ?_
  refine dg_s (pc' := 23) [.int (0 : Int32), .ref (x0 + 25)] rfl (fun _ => rfl) rfl ?_
  refine dg_s (pc' := 25) [.int (-4 : Int32), .int (0 : Int32), .ref (x0 + 25)] rfl (fun _ => rfl) rfl ?_
  refine dw_m (pc' := 26) (dc_wi (dc_wi (dc_wl m (x0 + 24) (Int32.toNatClampNeg (0 : Int32)) x1) (x0 + 27) (Int32.toNatClampNeg (0 : Int32)) x4) (x0 + 25) (Int32.toNatClampNeg (0 : Int32)) (-4 : Int32)) [] rfl (fun _ => rfl) ?_
  exact dw_j rfl (fun lv1 hv => k_X10_canMake_l26 (Φ := (fun t => Φ t)) x0 x3 (fun _a _b => kR _a _b) N  (0 : Int32) (dc_wi (dc_wi (dc_wl m (x0 + 24) (Int32.toNatClampNeg (0 : Int32)) x1) (x0 + 27) (Int32.toNatClampNeg (0 : Int32)) x4) (x0 + 25) (Int32.toNatClampNeg (0 : Int32)) (-4 : Int32)) lv1 (hv.1 _ rfl) (hv.2.1 _ rfl) (hv.2.2.1 _ rfl))
noncomputable def H_X10_canMake : dc_H := fun As m k => match As with
  | [.ref x0, .long x1, .int x3, .int x4] => (d_X10_canMake x0 x1 x3 x4 m).bind (fun q => k (some (.int q.1)) q.2)
  | _ => dc_kz
theorem H_X10_canMake_ok {u : Nat} : dc_cok u 196 H_X10_canMake := fun M' hG N As m k P hz hP => by
  obtain rfl : ab_M_X10_canMake = M' := Option.some.inj hG
  unfold H_X10_canMake at hP
  split at hP
  · rename_i x0 x1 x3 x4
    exact dc_pv.imp (k_X10_canMake (Φ := fun (t : Option (Int32 × dc_M)) r m' => P (t.bind (fun q => k (some (.int q.1)) q.2)) → P (k r m')) x0 x1 x3 x4 m (fun _ _ h => h) rfl rfl rfl rfl) (fun r m' h => h hP)
  · exact absurd hP hz
noncomputable def C_X10_layMakes : List (Nat × dc_H) := [(196, H_X10_canMake), (193, H_X10_layCubes)]
theorem CO_X10_layMakes {u : Nat} : dc_CO u C_X10_layMakes := dc_CO_cons H_X10_canMake_ok (dc_CO_cons H_X10_layCubes_ok (dc_CO_nil))
def S_X10_layMakes : List (Nat × List Nat) := [(9, [0]), (42, [0])]
noncomputable def d_X10_layMakes_l42b (x0 : Nat)  (m : dc_M) : Option (dc_M ⊕ dc_M) :=
  ((d_X10_canMake x0 (0 : Int64) (m.1 x0 57) (m.1 x0 58) m).bind (fun q1 => (if ¬ (Int32.toInt q1.1) = 0 then some (Sum.inr (q1.2)) else some (Sum.inl (dc_wi q1.2 x0 58 ((q1.2.1 x0 58) + (1 : Int32)))))))
noncomputable def d_X10_layMakes_l42s (x0 : Nat) : dc_M → Option (dc_M ⊕ dc_M) := fun s => d_X10_layMakes_l42b x0 s
noncomputable def d_X10_layMakes_l42 (x0 : Nat)  (m : dc_M) : Option dc_M := dc_lp (d_X10_layMakes_l42s x0) m
set_option maxHeartbeats 8000000 in
theorem k_X10_layMakes_l42 {u : Nat} {Φ : (Option dc_M) → Option Value → dc_M → Prop} (x0 : Nat) (kR : ∀  (m : dc_M), Φ (some (m)) (none) m) : ∀ (N : Nat), ∀  (m : dc_M) (lv : ab_L), ab_lk lv 0 = some (.ref x0) → dc_pv u N ab_M_X10_layMakes 42 lv [] m (Φ (d_X10_layMakes_l42 x0  m)) := by
  intro N
  induction N with
  | zero => intros; exact dc_pv_zero
  | succ N ih =>
    intro m lv f0
    refine dc_ok (C := C_X10_layMakes) (S := S_X10_layMakes) CO_X10_layMakes 400 42 [(0, .ref x0)] lv [] m (dc_sub_cons f0 (dc_sub_nil)) ?_
    unfold d_X10_layMakes_l42
    rw [dc_lp_eq]
    show (fun t x => dc_lf u N ab_M_X10_layMakes (Φ (Option.bind t (dc_bk (d_X10_layMakes_l42s x0)))) x) (d_X10_layMakes_l42b x0  m) _
    dsimp only
    unfold d_X10_layMakes_l42b
    refine dg_s (pc' := 43) [.ref x0] rfl (fun _ => rfl) rfl ?_
    refine dg_s (pc' := 44) [.long (0 : Int64), .ref x0] rfl (fun _ => rfl) rfl ?_
    refine dg_s (pc' := 45) [.ref x0, .long (0 : Int64), .ref x0] rfl (fun _ => rfl) rfl ?_
    refine dg_s (pc' := 48) [.int (m.1 x0 57), .long (0 : Int64), .ref x0] rfl (fun _ => rfl) rfl ?_
    refine dg_s (pc' := 49) [.ref x0, .int (m.1 x0 57), .long (0 : Int64), .ref x0] rfl (fun _ => rfl) rfl ?_
    refine dg_s (pc' := 52) [.int (m.1 x0 58), .int (m.1 x0 57), .long (0 : Int64), .ref x0] rfl (fun _ => rfl) rfl ?_
    refine dw_b (fun t => Φ (Option.bind t (dc_bk (d_X10_layMakes_l42s x0)))) (pc' := 55) (fun q1 => [.int q1.1]) (fun q1 => q1.2) rfl (fun _ => rfl) (fun q1 => ?_)
    refine dw_g rfl ?_
    refine dw_if (fun t => Φ (Option.bind t (dc_bk (d_X10_layMakes_l42s x0)))) (¬ (Int32.toInt q1.1) = 0) [] 71 58 rfl (fun _ => rfl) (fun c0 => ?_) (fun c0 => ?_)
    · refine dw_g rfl ?_
      exact dw_r (some (.inl (none, q1.2))) rfl (fun _ => rfl) (kR _)
    · refine dw_g rfl ?_
      refine dg_s (pc' := 59) [.ref x0] rfl (fun _ => rfl) rfl ?_
      refine dg_s (pc' := 60) [.ref x0, .ref x0] rfl (fun _ => rfl) rfl ?_
      refine dg_s (pc' := 63) [.int (q1.2.1 x0 58), .ref x0] rfl (fun _ => rfl) rfl ?_
      refine dg_s (pc' := 64) [.int (1 : Int32), .int (q1.2.1 x0 58), .ref x0] rfl (fun _ => rfl) rfl ?_
      refine dg_s (pc' := 65) [.int ((q1.2.1 x0 58) + (1 : Int32)), .ref x0] rfl (fun _ => rfl) rfl ?_
      refine dg_m (pc' := 68) (dc_wi q1.2 x0 58 ((q1.2.1 x0 58) + (1 : Int32))) [] rfl (fun _ => rfl) rfl ?_
      refine dw_s (pc' := 42) [] rfl (fun _ => rfl) ?_
      exact dw_j rfl (fun lv1 hv => ih (dc_wi q1.2 x0 58 ((q1.2.1 x0 58) + (1 : Int32))) lv1 (hv.1 _ rfl))
noncomputable def d_X10_layMakes_l9b (x0 : Nat)  (m : dc_M) : Option (dc_M ⊕ dc_M) :=
  ((d_X10_canMake x0 (0 : Int64) (m.1 x0 57) (1000 : Int32) m).bind (fun q1 => (if ¬ (Int32.toInt q1.1) = 0 then ((d_X10_layMakes_l42 x0 (dc_wi q1.2 x0 58 (0 : Int32))).map (fun z => Sum.inr (z))) else some (Sum.inl (dc_wi q1.2 x0 57 ((q1.2.1 x0 57) + (1 : Int32)))))))
noncomputable def d_X10_layMakes_l9s (x0 : Nat) : dc_M → Option (dc_M ⊕ dc_M) := fun s => d_X10_layMakes_l9b x0 s
noncomputable def d_X10_layMakes_l9 (x0 : Nat)  (m : dc_M) : Option dc_M := dc_lp (d_X10_layMakes_l9s x0) m
set_option maxHeartbeats 8000000 in
theorem k_X10_layMakes_l9 {u : Nat} {Φ : (Option dc_M) → Option Value → dc_M → Prop} (x0 : Nat) (kR : ∀  (m : dc_M), Φ (some (m)) (none) m) : ∀ (N : Nat), ∀  (m : dc_M) (lv : ab_L), ab_lk lv 0 = some (.ref x0) → dc_pv u N ab_M_X10_layMakes 9 lv [] m (Φ (d_X10_layMakes_l9 x0  m)) := by
  intro N
  induction N with
  | zero => intros; exact dc_pv_zero
  | succ N ih =>
    intro m lv f0
    refine dc_ok (C := C_X10_layMakes) (S := S_X10_layMakes) CO_X10_layMakes 400 9 [(0, .ref x0)] lv [] m (dc_sub_cons f0 (dc_sub_nil)) ?_
    unfold d_X10_layMakes_l9
    rw [dc_lp_eq]
    show (fun t x => dc_lf u N ab_M_X10_layMakes (Φ (Option.bind t (dc_bk (d_X10_layMakes_l9s x0)))) x) (d_X10_layMakes_l9b x0  m) _
    dsimp only
    unfold d_X10_layMakes_l9b
    refine dg_s (pc' := 10) [.ref x0] rfl (fun _ => rfl) rfl ?_
    refine dg_s (pc' := 11) [.long (0 : Int64), .ref x0] rfl (fun _ => rfl) rfl ?_
    refine dg_s (pc' := 12) [.ref x0, .long (0 : Int64), .ref x0] rfl (fun _ => rfl) rfl ?_
    refine dg_s (pc' := 15) [.int (m.1 x0 57), .long (0 : Int64), .ref x0] rfl (fun _ => rfl) rfl ?_
    refine dg_s (pc' := 18) [.int (1000 : Int32), .int (m.1 x0 57), .long (0 : Int64), .ref x0] rfl (fun _ => rfl) rfl ?_
    refine dw_b (fun t => Φ (Option.bind t (dc_bk (d_X10_layMakes_l9s x0)))) (pc' := 21) (fun q1 => [.int q1.1]) (fun q1 => q1.2) rfl (fun _ => rfl) (fun q1 => ?_)
    refine dw_g rfl ?_
    refine dw_if (fun t => Φ (Option.bind t (dc_bk (d_X10_layMakes_l9s x0)))) (¬ (Int32.toInt q1.1) = 0) [] 37 24 rfl (fun _ => rfl) (fun c0 => ?_) (fun c0 => ?_)
    · refine dw_g rfl ?_
      refine dg_s (pc' := 38) [.ref x0] rfl (fun _ => rfl) rfl ?_
      refine dg_s (pc' := 39) [.int (0 : Int32), .ref x0] rfl (fun _ => rfl) rfl ?_
      refine dw_m (pc' := 42) (dc_wi q1.2 x0 58 (0 : Int32)) [] rfl (fun _ => rfl) ?_
      exact dw_j rfl (fun lv1 hv => k_X10_layMakes_l42 (Φ := (fun t => Φ (Option.bind (t.map (fun z => Sum.inr (z))) (dc_bk (d_X10_layMakes_l9s x0))))) x0 (fun _b => kR _b) N   (dc_wi q1.2 x0 58 (0 : Int32)) lv1 (hv.1 _ rfl))
    · refine dw_g rfl ?_
      refine dg_s (pc' := 25) [.ref x0] rfl (fun _ => rfl) rfl ?_
      refine dg_s (pc' := 26) [.ref x0, .ref x0] rfl (fun _ => rfl) rfl ?_
      refine dg_s (pc' := 29) [.int (q1.2.1 x0 57), .ref x0] rfl (fun _ => rfl) rfl ?_
      refine dg_s (pc' := 30) [.int (1 : Int32), .int (q1.2.1 x0 57), .ref x0] rfl (fun _ => rfl) rfl ?_
      refine dg_s (pc' := 31) [.int ((q1.2.1 x0 57) + (1 : Int32)), .ref x0] rfl (fun _ => rfl) rfl ?_
      refine dg_m (pc' := 34) (dc_wi q1.2 x0 57 ((q1.2.1 x0 57) + (1 : Int32))) [] rfl (fun _ => rfl) rfl ?_
      refine dw_s (pc' := 9) [] rfl (fun _ => rfl) ?_
      exact dw_j rfl (fun lv1 hv => ih (dc_wi q1.2 x0 57 ((q1.2.1 x0 57) + (1 : Int32))) lv1 (hv.1 _ rfl))
noncomputable def d_X10_layMakes (x0 : Nat) (m : dc_M) : Option dc_M :=
  ((d_X10_layCubes x0 m).bind (fun q1 => (d_X10_layMakes_l9 x0 (dc_wi q1 x0 57 (0 : Int32)))))
set_option maxHeartbeats 8000000 in
theorem k_X10_layMakes {u : Nat} {N : Nat} {Φ : (Option dc_M) → Option Value → dc_M → Prop} (x0 : Nat) (m : dc_M) (kR : ∀  (m : dc_M), Φ (some (m)) (none) m)  {lv : ab_L} (f0 : ab_lk lv 0 = some (.ref x0)) : dc_pv u N ab_M_X10_layMakes 0 lv [] m (Φ (d_X10_layMakes x0 m)) := by
  refine dc_pv.mono (dc_ok (C := C_X10_layMakes) (S := S_X10_layMakes) CO_X10_layMakes 400 0 [(0, .ref x0)] lv [] m (dc_sub_cons f0 (dc_sub_nil)) ?_) (Nat.le_succ N)
  unfold d_X10_layMakes
  refine dg_s (pc' := 1) [.ref x0] rfl (fun _ => rfl) rfl ?_
  refine dw_b (fun t => Φ t) (pc' := 4) (fun q1 => []) (fun q1 => q1) rfl (fun _ => rfl) (fun q1 => ?_)
  refine dw_g rfl ?_
  refine dg_s (pc' := 5) [.ref x0] rfl (fun _ => rfl) rfl ?_
  refine dg_s (pc' := 6) [.int (0 : Int32), .ref x0] rfl (fun _ => rfl) rfl ?_
  refine dw_m (pc' := 9) (dc_wi q1 x0 57 (0 : Int32)) [] rfl (fun _ => rfl) ?_
  exact dw_j rfl (fun lv1 hv => k_X10_layMakes_l9 (Φ := (fun t => Φ t)) x0 (fun _b => kR _b) N   (dc_wi q1 x0 57 (0 : Int32)) lv1 (hv.1 _ rfl))
noncomputable def H_X10_layMakes : dc_H := fun As m k => match As with
  | [.ref x0] => (d_X10_layMakes x0 m).bind (fun q => k (none) q)
  | _ => dc_kz
theorem H_X10_layMakes_ok {u : Nat} : dc_cok u 197 H_X10_layMakes := fun M' hG N As m k P hz hP => by
  obtain rfl : ab_M_X10_layMakes = M' := Option.some.inj hG
  unfold H_X10_layMakes at hP
  split at hP
  · rename_i x0
    exact dc_pv.imp (k_X10_layMakes (Φ := fun (t : Option dc_M) r m' => P (t.bind (fun q => k (none) q)) → P (k r m')) x0 m (fun _ h => h) rfl) (fun r m' h => h hP)
  · exact absurd hP hz
noncomputable def C_X10_cubeAt : List (Nat × dc_H) := [(196, H_X10_canMake)]
theorem CO_X10_cubeAt {u : Nat} : dc_CO u C_X10_cubeAt := dc_CO_cons H_X10_canMake_ok (dc_CO_nil)
def S_X10_cubeAt : List (Nat × List Nat) := [(20, [0, 1, 2, 4, 5, 6, 7]), (41, [0, 1, 2, 4, 5, 7, 8, 10]), (62, [0, 1, 2, 4, 5, 6, 7, 10]), (127, [0, 1, 2, 4, 5, 6, 7])]
noncomputable def d_X10_cubeAt_b127 (x0 : Nat) (x1 : Int32) (x2 : Int64) (x4 : Int32) (x5 : Int32) (x6 : Int32) (x7 : Int32) (m : dc_M) : Option ((Int64 × Int32 × Int32 × Int32 × Int32 × dc_M) ⊕ (Int32 × dc_M)) :=
  some (Sum.inl ((x2 ||| (m.2.1 (x0 + 22) (Int32.toNatClampNeg x6))), (x4 + (-1)), (x5 - (m.1 (x0 + 23) (Int32.toNatClampNeg x6))), x6, (x7 + (1 : Int32)), m))
set_option maxHeartbeats 8000000 in
theorem k_X10_cubeAt_b127 {u : Nat} {N : Nat} {Φ : (Option ((Int64 × Int32 × Int32 × Int32 × Int32 × dc_M) ⊕ (Int32 × dc_M))) → Option Value → dc_M → Prop} (x0 : Nat) (x1 : Int32) (x2 : Int64) (x4 : Int32) (x5 : Int32) (x6 : Int32) (x7 : Int32) (m : dc_M) (kR : ∀ (v : Int32) (m : dc_M), Φ (some (Sum.inr ((v, m)))) (some (.int v)) m) (k20 : ∀ (x2 : Int64) (x4 : Int32) (x5 : Int32) (x6 : Int32) (x7 : Int32) (m : dc_M) (lv : ab_L), ab_lk lv 0 = some (.ref x0) → ab_lk lv 1 = some (.int x1) → ab_lk lv 2 = some (.long x2) → ab_lk lv 4 = some (.int x4) → ab_lk lv 5 = some (.int x5) → ab_lk lv 6 = some (.int x6) → ab_lk lv 7 = some (.int x7) →  dc_pv u N ab_M_X10_cubeAt 20 lv [] m (Φ (some (Sum.inl (x2, x4, x5, x6, x7, m))))) {lv : ab_L} (f0 : ab_lk lv 0 = some (.ref x0)) (f1 : ab_lk lv 1 = some (.int x1)) (f2 : ab_lk lv 2 = some (.long x2)) (f4 : ab_lk lv 4 = some (.int x4)) (f5 : ab_lk lv 5 = some (.int x5)) (f6 : ab_lk lv 6 = some (.int x6)) (f7 : ab_lk lv 7 = some (.int x7)) : dc_pv u N ab_M_X10_cubeAt 127 lv [] m (Φ (d_X10_cubeAt_b127 x0 x1 x2 x4 x5 x6 x7 m)) := by
  refine dc_pv.mono (dc_ok (C := C_X10_cubeAt) (S := S_X10_cubeAt) CO_X10_cubeAt 400 127 [(0, .ref x0), (1, .int x1), (2, .long x2), (4, .int x4), (5, .int x5), (6, .int x6), (7, .int x7)] lv [] m (dc_sub_cons f0 (dc_sub_cons f1 (dc_sub_cons f2 (dc_sub_cons f4 (dc_sub_cons f5 (dc_sub_cons f6 (dc_sub_cons f7 (dc_sub_nil)))))))) ?_) (Nat.le_succ N)
  unfold d_X10_cubeAt_b127
  refine dg_s (pc' := 128) [.long x2] rfl (fun _ => rfl) rfl ?_
  refine dg_s (pc' := 129) [.ref x0, .long x2] rfl (fun _ => rfl) rfl ?_
  refine dg_s (pc' := 132) [.ref (x0 + 22), .long x2] rfl (fun _ => rfl) rfl ?_
  refine dg_s (pc' := 134) [.int x6, .ref (x0 + 22), .long x2] rfl (fun _ => rfl) rfl ?_
  refine dg_s (pc' := 135) [.long (m.2.1 (x0 + 22) (Int32.toNatClampNeg x6)), .long x2] rfl (fun _ => rfl) rfl ?_
  refine dg_s (pc' := 136) [.long (x2 ||| (m.2.1 (x0 + 22) (Int32.toNatClampNeg x6)))] rfl (fun _ => rfl) rfl ?_
  refine dg_L (pc' := 137) [(2, .long (x2 ||| (m.2.1 (x0 + 22) (Int32.toNatClampNeg x6)))), (0, .ref x0), (1, .int x1), (4, .int x4), (5, .int x5), (6, .int x6), (7, .int x7)] [] rfl (fun _ => rfl) rfl ?_
  refine dg_L (pc' := 140) [(4, .int (x4 + (-1))), (2, .long (x2 ||| (m.2.1 (x0 + 22) (Int32.toNatClampNeg x6)))), (0, .ref x0), (1, .int x1), (5, .int x5), (6, .int x6), (7, .int x7)] [] rfl (fun _ => rfl) rfl ?_
  refine dg_s (pc' := 142) [.int x5] rfl (fun _ => rfl) rfl ?_
  refine dg_s (pc' := 143) [.ref x0, .int x5] rfl (fun _ => rfl) rfl ?_
  refine dg_s (pc' := 146) [.ref (x0 + 23), .int x5] rfl (fun _ => rfl) rfl ?_
  refine dg_s (pc' := 148) [.int x6, .ref (x0 + 23), .int x5] rfl (fun _ => rfl) rfl ?_
  refine dg_s (pc' := 149) [.int (m.1 (x0 + 23) (Int32.toNatClampNeg x6)), .int x5] rfl (fun _ => rfl) rfl ?_
  refine dg_s (pc' := 150) [.int (x5 - (m.1 (x0 + 23) (Int32.toNatClampNeg x6)))] rfl (fun _ => rfl) rfl ?_
  refine dg_L (pc' := 152) [(5, .int (x5 - (m.1 (x0 + 23) (Int32.toNatClampNeg x6)))), (4, .int (x4 + (-1))), (2, .long (x2 ||| (m.2.1 (x0 + 22) (Int32.toNatClampNeg x6)))), (0, .ref x0), (1, .int x1), (6, .int x6), (7, .int x7)] [] rfl (fun _ => rfl) rfl ?_
  refine dg_L (pc' := 155) [(7, .int (x7 + (1 : Int32))), (5, .int (x5 - (m.1 (x0 + 23) (Int32.toNatClampNeg x6)))), (4, .int (x4 + (-1))), (2, .long (x2 ||| (m.2.1 (x0 + 22) (Int32.toNatClampNeg x6)))), (0, .ref x0), (1, .int x1), (6, .int x6)] [] rfl (fun _ => rfl) rfl ?_
  refine dw_s (pc' := 20) [] rfl (fun _ => rfl) ?_
  exact dw_j rfl (fun lv1 hv => k20 (x2 ||| (m.2.1 (x0 + 22) (Int32.toNatClampNeg x6))) (x4 + (-1)) (x5 - (m.1 (x0 + 23) (Int32.toNatClampNeg x6))) x6 (x7 + (1 : Int32)) m lv1 (hv.1 _ rfl) (hv.2.1 _ rfl) (hv.2.2.1 _ rfl) (hv.2.2.2.1 _ rfl) (hv.2.2.2.2.1 _ rfl) (hv.2.2.2.2.2.1 _ rfl) (hv.2.2.2.2.2.2.1 _ rfl))
noncomputable def d_X10_cubeAt_l62b (x0 : Nat) (x1 : Int32) (x2 : Int64) (x4 : Int32) (x5 : Int32) (x7 : Int32) (x10 : Int32) (x6 : Int32) (m : dc_M) : Option ((Int32 × dc_M) ⊕ ((Int64 × Int32 × Int32 × Int32 × Int32 × dc_M) ⊕ (Int32 × dc_M))) :=
  (if (Int32.toInt (lg_cmp (((m.2.1 (x0 + 22) (Int32.toNatClampNeg x6)) >>> (Int32.toInt64 x10 &&& 63)) &&& (1 : Int64)) (0 : Int64))) = 0 then some (Sum.inl ((x6 + (1 : Int32)), m)) else (if (Int32.toInt x5) < (Int32.toInt (m.1 (x0 + 23) (Int32.toNatClampNeg x6))) then some (Sum.inl ((x6 + (1 : Int32)), m)) else ((d_X10_canMake x0 (x2 ||| (m.2.1 (x0 + 22) (Int32.toNatClampNeg x6))) (x4 - (1 : Int32)) (x5 - (m.1 (x0 + 23) (Int32.toNatClampNeg x6))) m).bind (fun q1 => (if ¬ (Int32.toInt q1.1) = 0 then ((d_X10_cubeAt_b127 x0 x1 x2 x4 x5 x6 x7 q1.2).map (fun z => Sum.inr (z))) else some (Sum.inl ((x6 + (1 : Int32)), q1.2)))))))
noncomputable def d_X10_cubeAt_l62s (x0 : Nat) (x1 : Int32) (x2 : Int64) (x4 : Int32) (x5 : Int32) (x7 : Int32) (x10 : Int32) : (Int32 × dc_M) → Option ((Int32 × dc_M) ⊕ ((Int64 × Int32 × Int32 × Int32 × Int32 × dc_M) ⊕ (Int32 × dc_M))) := fun s => d_X10_cubeAt_l62b x0 x1 x2 x4 x5 x7 x10 s.1 s.2
noncomputable def d_X10_cubeAt_l62 (x0 : Nat) (x1 : Int32) (x2 : Int64) (x4 : Int32) (x5 : Int32) (x7 : Int32) (x10 : Int32) (x6 : Int32) (m : dc_M) : Option ((Int64 × Int32 × Int32 × Int32 × Int32 × dc_M) ⊕ (Int32 × dc_M)) := dc_lp (d_X10_cubeAt_l62s x0 x1 x2 x4 x5 x7 x10) (x6, m)
set_option maxHeartbeats 8000000 in
theorem k_X10_cubeAt_l62 {u : Nat} {Φ : (Option ((Int64 × Int32 × Int32 × Int32 × Int32 × dc_M) ⊕ (Int32 × dc_M))) → Option Value → dc_M → Prop} (x0 : Nat) (x1 : Int32) (x2 : Int64) (x4 : Int32) (x5 : Int32) (x7 : Int32) (x10 : Int32) (kR : ∀ (v : Int32) (m : dc_M), Φ (some (Sum.inr ((v, m)))) (some (.int v)) m) : ∀ (N : Nat), (∀ (x2 : Int64) (x4 : Int32) (x5 : Int32) (x6 : Int32) (x7 : Int32) (m : dc_M) (lv : ab_L), ab_lk lv 0 = some (.ref x0) → ab_lk lv 1 = some (.int x1) → ab_lk lv 2 = some (.long x2) → ab_lk lv 4 = some (.int x4) → ab_lk lv 5 = some (.int x5) → ab_lk lv 6 = some (.int x6) → ab_lk lv 7 = some (.int x7) →  dc_pv u N ab_M_X10_cubeAt 20 lv [] m (Φ (some (Sum.inl (x2, x4, x5, x6, x7, m))))) → ∀ (x6 : Int32) (m : dc_M) (lv : ab_L), ab_lk lv 0 = some (.ref x0) → ab_lk lv 1 = some (.int x1) → ab_lk lv 2 = some (.long x2) → ab_lk lv 4 = some (.int x4) → ab_lk lv 5 = some (.int x5) → ab_lk lv 6 = some (.int x6) → ab_lk lv 7 = some (.int x7) → ab_lk lv 10 = some (.int x10) → dc_pv u N ab_M_X10_cubeAt 62 lv [] m (Φ (d_X10_cubeAt_l62 x0 x1 x2 x4 x5 x7 x10 x6 m)) := by
  intro N
  induction N with
  | zero => intros; exact dc_pv_zero
  | succ N ih =>
    intro k20 x6 m lv f0 f1 f2 f4 f5 f6 f7 f10
    have k20 := fun a0 a1 a2 a3 a4 a5 a6 a7 a8 a9 a10 a11 a12 a13 => (k20 a0 a1 a2 a3 a4 a5 a6 a7 a8 a9 a10 a11 a12 a13).mono (Nat.le_succ N)
    have ih := ih k20
    refine dc_ok (C := C_X10_cubeAt) (S := S_X10_cubeAt) CO_X10_cubeAt 400 62 [(0, .ref x0), (1, .int x1), (2, .long x2), (4, .int x4), (5, .int x5), (6, .int x6), (7, .int x7), (10, .int x10)] lv [] m (dc_sub_cons f0 (dc_sub_cons f1 (dc_sub_cons f2 (dc_sub_cons f4 (dc_sub_cons f5 (dc_sub_cons f6 (dc_sub_cons f7 (dc_sub_cons f10 (dc_sub_nil))))))))) ?_
    unfold d_X10_cubeAt_l62
    rw [dc_lp_eq]
    show (fun t x => dc_lf u N ab_M_X10_cubeAt (Φ (Option.bind t (dc_bk (d_X10_cubeAt_l62s x0 x1 x2 x4 x5 x7 x10)))) x) (d_X10_cubeAt_l62b x0 x1 x2 x4 x5 x7 x10 x6 m) _
    dsimp only
    unfold d_X10_cubeAt_l62b
    refine dg_s (pc' := 63) [.ref x0] rfl (fun _ => rfl) rfl ?_
    refine dg_s (pc' := 66) [.ref (x0 + 22)] rfl (fun _ => rfl) rfl ?_
    refine dg_s (pc' := 68) [.int x6, .ref (x0 + 22)] rfl (fun _ => rfl) rfl ?_
    refine dg_s (pc' := 69) [.long (m.2.1 (x0 + 22) (Int32.toNatClampNeg x6))] rfl (fun _ => rfl) rfl ?_
    refine dg_s (pc' := 71) [.int x10, .long (m.2.1 (x0 + 22) (Int32.toNatClampNeg x6))] rfl (fun _ => rfl) rfl ?_
    refine dg_s (pc' := 72) [.long ((m.2.1 (x0 + 22) (Int32.toNatClampNeg x6)) >>> (Int32.toInt64 x10 &&& 63))] rfl (fun _ => rfl) rfl ?_
    refine dg_s (pc' := 73) [.long (1 : Int64), .long ((m.2.1 (x0 + 22) (Int32.toNatClampNeg x6)) >>> (Int32.toInt64 x10 &&& 63))] rfl (fun _ => rfl) rfl ?_
    refine dg_s (pc' := 74) [.long (((m.2.1 (x0 + 22) (Int32.toNatClampNeg x6)) >>> (Int32.toInt64 x10 &&& 63)) &&& (1 : Int64))] rfl (fun _ => rfl) rfl ?_
    refine dg_s (pc' := 75) [.long (0 : Int64), .long (((m.2.1 (x0 + 22) (Int32.toNatClampNeg x6)) >>> (Int32.toInt64 x10 &&& 63)) &&& (1 : Int64))] rfl (fun _ => rfl) rfl ?_
    refine dg_s (pc' := 76) [.int (lg_cmp (((m.2.1 (x0 + 22) (Int32.toNatClampNeg x6)) >>> (Int32.toInt64 x10 &&& 63)) &&& (1 : Int64)) (0 : Int64))] rfl (fun _ => rfl) rfl ?_
    refine dw_if (fun t => Φ (Option.bind t (dc_bk (d_X10_cubeAt_l62s x0 x1 x2 x4 x5 x7 x10)))) ((Int32.toInt (lg_cmp (((m.2.1 (x0 + 22) (Int32.toNatClampNeg x6)) >>> (Int32.toInt64 x10 &&& 63)) &&& (1 : Int64)) (0 : Int64))) = 0) [] 121 79 rfl (fun _ => rfl) (fun c0 => ?_) (fun c0 => ?_)
    · refine dw_g rfl ?_
      refine dg_L (pc' := 124) [(6, .int (x6 + (1 : Int32))), (0, .ref x0), (1, .int x1), (2, .long x2), (4, .int x4), (5, .int x5), (7, .int x7), (10, .int x10)] [] rfl (fun _ => rfl) rfl ?_
      refine dw_s (pc' := 62) [] rfl (fun _ => rfl) ?_
      exact dw_j rfl (fun lv1 hv => ih (x6 + (1 : Int32)) m lv1 (hv.1 _ rfl) (hv.2.1 _ rfl) (hv.2.2.1 _ rfl) (hv.2.2.2.1 _ rfl) (hv.2.2.2.2.1 _ rfl) (hv.2.2.2.2.2.1 _ rfl) (hv.2.2.2.2.2.2.1 _ rfl) (hv.2.2.2.2.2.2.2.1 _ rfl))
    · refine dw_g rfl ?_
      refine dg_s (pc' := 80) [.ref x0] rfl (fun _ => rfl) rfl ?_
      refine dg_s (pc' := 83) [.ref (x0 + 23)] rfl (fun _ => rfl) rfl ?_
      refine dg_s (pc' := 85) [.int x6, .ref (x0 + 23)] rfl (fun _ => rfl) rfl ?_
      refine dg_s (pc' := 86) [.int (m.1 (x0 + 23) (Int32.toNatClampNeg x6))] rfl (fun _ => rfl) rfl ?_
      refine dg_s (pc' := 88) [.int x5, .int (m.1 (x0 + 23) (Int32.toNatClampNeg x6))] rfl (fun _ => rfl) rfl ?_
      refine dw_if (fun t => Φ (Option.bind t (dc_bk (d_X10_cubeAt_l62s x0 x1 x2 x4 x5 x7 x10)))) ((Int32.toInt x5) < (Int32.toInt (m.1 (x0 + 23) (Int32.toNatClampNeg x6)))) [] 121 91 rfl (fun _ => rfl) (fun c1 => ?_) (fun c1 => ?_)
      · refine dw_g rfl ?_
        refine dg_L (pc' := 124) [(6, .int (x6 + (1 : Int32))), (0, .ref x0), (1, .int x1), (2, .long x2), (4, .int x4), (5, .int x5), (7, .int x7), (10, .int x10)] [] rfl (fun _ => rfl) rfl ?_
        refine dw_s (pc' := 62) [] rfl (fun _ => rfl) ?_
        exact dw_j rfl (fun lv1 hv => ih (x6 + (1 : Int32)) m lv1 (hv.1 _ rfl) (hv.2.1 _ rfl) (hv.2.2.1 _ rfl) (hv.2.2.2.1 _ rfl) (hv.2.2.2.2.1 _ rfl) (hv.2.2.2.2.2.1 _ rfl) (hv.2.2.2.2.2.2.1 _ rfl) (hv.2.2.2.2.2.2.2.1 _ rfl))
      · refine dw_g rfl ?_
        refine dg_s (pc' := 92) [.ref x0] rfl (fun _ => rfl) rfl ?_
        refine dg_s (pc' := 93) [.long x2, .ref x0] rfl (fun _ => rfl) rfl ?_
        refine dg_s (pc' := 94) [.ref x0, .long x2, .ref x0] rfl (fun _ => rfl) rfl ?_
        refine dg_s (pc' := 97) [.ref (x0 + 22), .long x2, .ref x0] rfl (fun _ => rfl) rfl ?_
        refine dg_s (pc' := 99) [.int x6, .ref (x0 + 22), .long x2, .ref x0] rfl (fun _ => rfl) rfl ?_
        refine dg_s (pc' := 100) [.long (m.2.1 (x0 + 22) (Int32.toNatClampNeg x6)), .long x2, .ref x0] rfl (fun _ => rfl) rfl ?_
        refine dg_s (pc' := 101) [.long (x2 ||| (m.2.1 (x0 + 22) (Int32.toNatClampNeg x6))), .ref x0] rfl (fun _ => rfl) rfl ?_
        refine dg_s (pc' := 103) [.int x4, .long (x2 ||| (m.2.1 (x0 + 22) (Int32.toNatClampNeg x6))), .ref x0] rfl (fun _ => rfl) rfl ?_
        refine dg_s (pc' := 104) [.int (1 : Int32), .int x4, .long (x2 ||| (m.2.1 (x0 + 22) (Int32.toNatClampNeg x6))), .ref x0] rfl (fun _ => rfl) rfl ?_
        refine dg_s (pc' := 105) [.int (x4 - (1 : Int32)), .long (x2 ||| (m.2.1 (x0 + 22) (Int32.toNatClampNeg x6))), .ref x0] rfl (fun _ => rfl) rfl ?_
        refine dg_s (pc' := 107) [.int x5, .int (x4 - (1 : Int32)), .long (x2 ||| (m.2.1 (x0 + 22) (Int32.toNatClampNeg x6))), .ref x0] rfl (fun _ => rfl) rfl ?_
        refine dg_s (pc' := 108) [.ref x0, .int x5, .int (x4 - (1 : Int32)), .long (x2 ||| (m.2.1 (x0 + 22) (Int32.toNatClampNeg x6))), .ref x0] rfl (fun _ => rfl) rfl ?_
        refine dg_s (pc' := 111) [.ref (x0 + 23), .int x5, .int (x4 - (1 : Int32)), .long (x2 ||| (m.2.1 (x0 + 22) (Int32.toNatClampNeg x6))), .ref x0] rfl (fun _ => rfl) rfl ?_
        refine dg_s (pc' := 113) [.int x6, .ref (x0 + 23), .int x5, .int (x4 - (1 : Int32)), .long (x2 ||| (m.2.1 (x0 + 22) (Int32.toNatClampNeg x6))), .ref x0] rfl (fun _ => rfl) rfl ?_
        refine dg_s (pc' := 114) [.int (m.1 (x0 + 23) (Int32.toNatClampNeg x6)), .int x5, .int (x4 - (1 : Int32)), .long (x2 ||| (m.2.1 (x0 + 22) (Int32.toNatClampNeg x6))), .ref x0] rfl (fun _ => rfl) rfl ?_
        refine dg_s (pc' := 115) [.int (x5 - (m.1 (x0 + 23) (Int32.toNatClampNeg x6))), .int (x4 - (1 : Int32)), .long (x2 ||| (m.2.1 (x0 + 22) (Int32.toNatClampNeg x6))), .ref x0] rfl (fun _ => rfl) rfl ?_
        refine dw_b (fun t => Φ (Option.bind t (dc_bk (d_X10_cubeAt_l62s x0 x1 x2 x4 x5 x7 x10)))) (pc' := 118) (fun q1 => [.int q1.1]) (fun q1 => q1.2) rfl (fun _ => rfl) (fun q1 => ?_)
        refine dw_g rfl ?_
        refine dw_if (fun t => Φ (Option.bind t (dc_bk (d_X10_cubeAt_l62s x0 x1 x2 x4 x5 x7 x10)))) (¬ (Int32.toInt q1.1) = 0) [] 127 121 rfl (fun _ => rfl) (fun c2 => ?_) (fun c2 => ?_)
        · exact dw_j rfl (fun lv1 hv => k_X10_cubeAt_b127 (Φ := (fun t => Φ (Option.bind (t.map (fun z => Sum.inr (z))) (dc_bk (d_X10_cubeAt_l62s x0 x1 x2 x4 x5 x7 x10))))) x0 x1 x2 x4 x5 x6 x7 q1.2 (fun _a _b => kR _a _b) k20 (hv.1 _ rfl) (hv.2.1 _ rfl) (hv.2.2.1 _ rfl) (hv.2.2.2.1 _ rfl) (hv.2.2.2.2.1 _ rfl) (hv.2.2.2.2.2.1 _ rfl) (hv.2.2.2.2.2.2.1 _ rfl))
        · refine dw_g rfl ?_
          refine dg_L (pc' := 124) [(6, .int (x6 + (1 : Int32))), (0, .ref x0), (1, .int x1), (2, .long x2), (4, .int x4), (5, .int x5), (7, .int x7), (10, .int x10)] [] rfl (fun _ => rfl) rfl ?_
          refine dw_s (pc' := 62) [] rfl (fun _ => rfl) ?_
          exact dw_j rfl (fun lv1 hv => ih (x6 + (1 : Int32)) q1.2 lv1 (hv.1 _ rfl) (hv.2.1 _ rfl) (hv.2.2.1 _ rfl) (hv.2.2.2.1 _ rfl) (hv.2.2.2.2.1 _ rfl) (hv.2.2.2.2.2.1 _ rfl) (hv.2.2.2.2.2.2.1 _ rfl) (hv.2.2.2.2.2.2.2.1 _ rfl))
noncomputable def d_X10_cubeAt_l41b (x0 : Nat) (x1 : Int32) (x2 : Int64) (x4 : Int32) (x5 : Int32) (x7 : Int32) (x8 : Int64) (x10 : Int32) (m : dc_M) : Option (Int32 ⊕ ((Int64 × Int32 × Int32 × Int32 × Int32 × dc_M) ⊕ (Int32 × dc_M))) :=
  (if ¬ (Int32.toInt (lg_cmp ((x8 >>> (Int32.toInt64 x10 &&& 63)) &&& (1 : Int64)) (0 : Int64))) = 0 then ((d_X10_cubeAt_l62 x0 x1 x2 x4 x5 x7 x10 (0 : Int32) m).map (fun z => Sum.inr (z))) else some (Sum.inl (x10 + (1 : Int32))))
noncomputable def d_X10_cubeAt_l41s (x0 : Nat) (x1 : Int32) (x2 : Int64) (x4 : Int32) (x5 : Int32) (x7 : Int32) (x8 : Int64) (m : dc_M) : Int32 → Option (Int32 ⊕ ((Int64 × Int32 × Int32 × Int32 × Int32 × dc_M) ⊕ (Int32 × dc_M))) := fun s => d_X10_cubeAt_l41b x0 x1 x2 x4 x5 x7 x8 s m
noncomputable def d_X10_cubeAt_l41 (x0 : Nat) (x1 : Int32) (x2 : Int64) (x4 : Int32) (x5 : Int32) (x7 : Int32) (x8 : Int64) (x10 : Int32) (m : dc_M) : Option ((Int64 × Int32 × Int32 × Int32 × Int32 × dc_M) ⊕ (Int32 × dc_M)) := dc_lp (d_X10_cubeAt_l41s x0 x1 x2 x4 x5 x7 x8 m) x10
set_option maxHeartbeats 8000000 in
theorem k_X10_cubeAt_l41 {u : Nat} {Φ : (Option ((Int64 × Int32 × Int32 × Int32 × Int32 × dc_M) ⊕ (Int32 × dc_M))) → Option Value → dc_M → Prop} (x0 : Nat) (x1 : Int32) (x2 : Int64) (x4 : Int32) (x5 : Int32) (x7 : Int32) (x8 : Int64) (m : dc_M) (kR : ∀ (v : Int32) (m : dc_M), Φ (some (Sum.inr ((v, m)))) (some (.int v)) m) : ∀ (N : Nat), (∀ (x2 : Int64) (x4 : Int32) (x5 : Int32) (x6 : Int32) (x7 : Int32) (m : dc_M) (lv : ab_L), ab_lk lv 0 = some (.ref x0) → ab_lk lv 1 = some (.int x1) → ab_lk lv 2 = some (.long x2) → ab_lk lv 4 = some (.int x4) → ab_lk lv 5 = some (.int x5) → ab_lk lv 6 = some (.int x6) → ab_lk lv 7 = some (.int x7) →  dc_pv u N ab_M_X10_cubeAt 20 lv [] m (Φ (some (Sum.inl (x2, x4, x5, x6, x7, m))))) → ∀ (x10 : Int32) (lv : ab_L), ab_lk lv 0 = some (.ref x0) → ab_lk lv 1 = some (.int x1) → ab_lk lv 2 = some (.long x2) → ab_lk lv 4 = some (.int x4) → ab_lk lv 5 = some (.int x5) → ab_lk lv 7 = some (.int x7) → ab_lk lv 8 = some (.long x8) → ab_lk lv 10 = some (.int x10) → dc_pv u N ab_M_X10_cubeAt 41 lv [] m (Φ (d_X10_cubeAt_l41 x0 x1 x2 x4 x5 x7 x8 x10 m)) := by
  intro N
  induction N with
  | zero => intros; exact dc_pv_zero
  | succ N ih =>
    intro k20 x10 lv f0 f1 f2 f4 f5 f7 f8 f10
    have k20 := fun a0 a1 a2 a3 a4 a5 a6 a7 a8 a9 a10 a11 a12 a13 => (k20 a0 a1 a2 a3 a4 a5 a6 a7 a8 a9 a10 a11 a12 a13).mono (Nat.le_succ N)
    have ih := ih k20
    refine dc_ok (C := C_X10_cubeAt) (S := S_X10_cubeAt) CO_X10_cubeAt 400 41 [(0, .ref x0), (1, .int x1), (2, .long x2), (4, .int x4), (5, .int x5), (7, .int x7), (8, .long x8), (10, .int x10)] lv [] m (dc_sub_cons f0 (dc_sub_cons f1 (dc_sub_cons f2 (dc_sub_cons f4 (dc_sub_cons f5 (dc_sub_cons f7 (dc_sub_cons f8 (dc_sub_cons f10 (dc_sub_nil))))))))) ?_
    unfold d_X10_cubeAt_l41
    rw [dc_lp_eq]
    show (fun t x => dc_lf u N ab_M_X10_cubeAt (Φ (Option.bind t (dc_bk (d_X10_cubeAt_l41s x0 x1 x2 x4 x5 x7 x8 m)))) x) (d_X10_cubeAt_l41b x0 x1 x2 x4 x5 x7 x8 x10 m) _
    dsimp only
    unfold d_X10_cubeAt_l41b
    refine dg_s (pc' := 43) [.long x8] rfl (fun _ => rfl) rfl ?_
    refine dg_s (pc' := 45) [.int x10, .long x8] rfl (fun _ => rfl) rfl ?_
    refine dg_s (pc' := 46) [.long (x8 >>> (Int32.toInt64 x10 &&& 63))] rfl (fun _ => rfl) rfl ?_
    refine dg_s (pc' := 47) [.long (1 : Int64), .long (x8 >>> (Int32.toInt64 x10 &&& 63))] rfl (fun _ => rfl) rfl ?_
    refine dg_s (pc' := 48) [.long ((x8 >>> (Int32.toInt64 x10 &&& 63)) &&& (1 : Int64))] rfl (fun _ => rfl) rfl ?_
    refine dg_s (pc' := 49) [.long (0 : Int64), .long ((x8 >>> (Int32.toInt64 x10 &&& 63)) &&& (1 : Int64))] rfl (fun _ => rfl) rfl ?_
    refine dg_s (pc' := 50) [.int (lg_cmp ((x8 >>> (Int32.toInt64 x10 &&& 63)) &&& (1 : Int64)) (0 : Int64))] rfl (fun _ => rfl) rfl ?_
    refine dw_if (fun t => Φ (Option.bind t (dc_bk (d_X10_cubeAt_l41s x0 x1 x2 x4 x5 x7 x8 m)))) (¬ (Int32.toInt (lg_cmp ((x8 >>> (Int32.toInt64 x10 &&& 63)) &&& (1 : Int64)) (0 : Int64))) = 0) [] 59 53 rfl (fun _ => rfl) (fun c0 => ?_) (fun c0 => ?_)
    · refine dw_g rfl ?_
      refine dg_s (pc' := 60) [.int (0 : Int32)] rfl (fun _ => rfl) rfl ?_
      refine dw_L (pc' := 62) [(6, .int (0 : Int32)), (0, .ref x0), (1, .int x1), (2, .long x2), (4, .int x4), (5, .int x5), (7, .int x7), (8, .long x8), (10, .int x10)] [] rfl (fun _ => rfl) ?_
      exact dw_j rfl (fun lv1 hv => k_X10_cubeAt_l62 (Φ := (fun t => Φ (Option.bind (t.map (fun z => Sum.inr (z))) (dc_bk (d_X10_cubeAt_l41s x0 x1 x2 x4 x5 x7 x8 m))))) x0 x1 x2 x4 x5 x7 x10 (fun _a _b => kR _a _b) N k20 (0 : Int32) m lv1 (hv.1 _ rfl) (hv.2.1 _ rfl) (hv.2.2.1 _ rfl) (hv.2.2.2.1 _ rfl) (hv.2.2.2.2.1 _ rfl) (hv.2.2.2.2.2.1 _ rfl) (hv.2.2.2.2.2.2.1 _ rfl) (hv.2.2.2.2.2.2.2.1 _ rfl))
    · refine dw_g rfl ?_
      refine dg_L (pc' := 56) [(10, .int (x10 + (1 : Int32))), (0, .ref x0), (1, .int x1), (2, .long x2), (4, .int x4), (5, .int x5), (7, .int x7), (8, .long x8)] [] rfl (fun _ => rfl) rfl ?_
      refine dw_s (pc' := 41) [] rfl (fun _ => rfl) ?_
      exact dw_j rfl (fun lv1 hv => ih (x10 + (1 : Int32)) lv1 (hv.1 _ rfl) (hv.2.1 _ rfl) (hv.2.2.1 _ rfl) (hv.2.2.2.1 _ rfl) (hv.2.2.2.2.1 _ rfl) (hv.2.2.2.2.2.1 _ rfl) (hv.2.2.2.2.2.2.1 _ rfl) (hv.2.2.2.2.2.2.2.1 _ rfl))
noncomputable def d_X10_cubeAt_l20b (x0 : Nat) (x1 : Int32) (x2 : Int64) (x4 : Int32) (x5 : Int32) (x6 : Int32) (x7 : Int32) (m : dc_M) : Option ((Int64 × Int32 × Int32 × Int32 × Int32 × dc_M) ⊕ (Int32 × dc_M)) :=
  (if (Int32.toInt x1) < (Int32.toInt x7) then some (Sum.inr (((m.1 (x0 + 21) (Int32.toNatClampNeg x6)), m))) else (d_X10_cubeAt_l41 x0 x1 x2 x4 x5 x7 ((m.2.1 x0 47) &&& (x2 ^^^ (-1 : Int64))) (0 : Int32) m))
noncomputable def d_X10_cubeAt_l20s (x0 : Nat) (x1 : Int32) : (Int64 × Int32 × Int32 × Int32 × Int32 × dc_M) → Option ((Int64 × Int32 × Int32 × Int32 × Int32 × dc_M) ⊕ (Int32 × dc_M)) := fun s => d_X10_cubeAt_l20b x0 x1 s.1 s.2.1 s.2.2.1 s.2.2.2.1 s.2.2.2.2.1 s.2.2.2.2.2
noncomputable def d_X10_cubeAt_l20 (x0 : Nat) (x1 : Int32) (x2 : Int64) (x4 : Int32) (x5 : Int32) (x6 : Int32) (x7 : Int32) (m : dc_M) : Option (Int32 × dc_M) := dc_lp (d_X10_cubeAt_l20s x0 x1) (x2, x4, x5, x6, x7, m)
set_option maxHeartbeats 8000000 in
theorem k_X10_cubeAt_l20 {u : Nat} {Φ : (Option (Int32 × dc_M)) → Option Value → dc_M → Prop} (x0 : Nat) (x1 : Int32) (kR : ∀ (v : Int32) (m : dc_M), Φ (some ((v, m))) (some (.int v)) m) : ∀ (N : Nat), ∀ (x2 : Int64) (x4 : Int32) (x5 : Int32) (x6 : Int32) (x7 : Int32) (m : dc_M) (lv : ab_L), ab_lk lv 0 = some (.ref x0) → ab_lk lv 1 = some (.int x1) → ab_lk lv 2 = some (.long x2) → ab_lk lv 4 = some (.int x4) → ab_lk lv 5 = some (.int x5) → ab_lk lv 6 = some (.int x6) → ab_lk lv 7 = some (.int x7) → dc_pv u N ab_M_X10_cubeAt 20 lv [] m (Φ (d_X10_cubeAt_l20 x0 x1 x2 x4 x5 x6 x7 m)) := by
  intro N
  induction N with
  | zero => intros; exact dc_pv_zero
  | succ N ih =>
    intro x2 x4 x5 x6 x7 m lv f0 f1 f2 f4 f5 f6 f7
    refine dc_ok (C := C_X10_cubeAt) (S := S_X10_cubeAt) CO_X10_cubeAt 400 20 [(0, .ref x0), (1, .int x1), (2, .long x2), (4, .int x4), (5, .int x5), (6, .int x6), (7, .int x7)] lv [] m (dc_sub_cons f0 (dc_sub_cons f1 (dc_sub_cons f2 (dc_sub_cons f4 (dc_sub_cons f5 (dc_sub_cons f6 (dc_sub_cons f7 (dc_sub_nil)))))))) ?_
    unfold d_X10_cubeAt_l20
    rw [dc_lp_eq]
    show (fun t x => dc_lf u N ab_M_X10_cubeAt (Φ (Option.bind t (dc_bk (d_X10_cubeAt_l20s x0 x1)))) x) (d_X10_cubeAt_l20b x0 x1 x2 x4 x5 x6 x7 m) _
    dsimp only
    unfold d_X10_cubeAt_l20b
    refine dg_s (pc' := 22) [.int x7] rfl (fun _ => rfl) rfl ?_
    refine dg_s (pc' := 23) [.int x1, .int x7] rfl (fun _ => rfl) rfl ?_
    refine dw_if (fun t => Φ (Option.bind t (dc_bk (d_X10_cubeAt_l20s x0 x1)))) ((Int32.toInt x1) < (Int32.toInt x7)) [] 158 26 rfl (fun _ => rfl) (fun c0 => ?_) (fun c0 => ?_)
    · refine dw_g rfl ?_
      refine dg_s (pc' := 159) [.ref x0] rfl (fun _ => rfl) rfl ?_
      refine dg_s (pc' := 162) [.ref (x0 + 21)] rfl (fun _ => rfl) rfl ?_
      refine dg_s (pc' := 164) [.int x6, .ref (x0 + 21)] rfl (fun _ => rfl) rfl ?_
      refine dg_s (pc' := 165) [.int (m.1 (x0 + 21) (Int32.toNatClampNeg x6))] rfl (fun _ => rfl) rfl ?_
      exact dw_r (some (.inl (some (.int (m.1 (x0 + 21) (Int32.toNatClampNeg x6))), m))) rfl (fun _ => rfl) (kR _ _)
    · refine dw_g rfl ?_
      refine dg_s (pc' := 27) [.ref x0] rfl (fun _ => rfl) rfl ?_
      refine dg_s (pc' := 30) [.long (m.2.1 x0 47)] rfl (fun _ => rfl) rfl ?_
      refine dg_s (pc' := 31) [.long x2, .long (m.2.1 x0 47)] rfl (fun _ => rfl) rfl ?_
      refine dg_s (pc' := 34) [.long (-1 : Int64), .long x2, .long (m.2.1 x0 47)] rfl (fun _ => rfl) rfl ?_
      refine dg_s (pc' := 35) [.long (x2 ^^^ (-1 : Int64)), .long (m.2.1 x0 47)] rfl (fun _ => rfl) rfl ?_
      refine dg_s (pc' := 36) [.long ((m.2.1 x0 47) &&& (x2 ^^^ (-1 : Int64)))] rfl (fun _ => rfl) rfl ?_
      refine dg_L (pc' := 38) [(8, .long ((m.2.1 x0 47) &&& (x2 ^^^ (-1 : Int64)))), (0, .ref x0), (1, .int x1), (2, .long x2), (4, .int x4), (5, .int x5), (6, .int x6), (7, .int x7)] [] rfl (fun _ => rfl) rfl ?_
      refine dg_s (pc' := 39) [.int (0 : Int32)] rfl (fun _ => rfl) rfl ?_
      refine dw_L (pc' := 41) [(10, .int (0 : Int32)), (8, .long ((m.2.1 x0 47) &&& (x2 ^^^ (-1 : Int64)))), (0, .ref x0), (1, .int x1), (2, .long x2), (4, .int x4), (5, .int x5), (6, .int x6), (7, .int x7)] [] rfl (fun _ => rfl) ?_
      exact dw_j rfl (fun lv1 hv => k_X10_cubeAt_l41 (Φ := (fun t => Φ (Option.bind t (dc_bk (d_X10_cubeAt_l20s x0 x1))))) x0 x1 x2 x4 x5 x7 ((m.2.1 x0 47) &&& (x2 ^^^ (-1 : Int64))) m (fun _a _b => kR _a _b) N ih (0 : Int32) lv1 (hv.1 _ rfl) (hv.2.1 _ rfl) (hv.2.2.1 _ rfl) (hv.2.2.2.1 _ rfl) (hv.2.2.2.2.1 _ rfl) (hv.2.2.2.2.2.1 _ rfl) (hv.2.2.2.2.2.2.1 _ rfl) (hv.2.2.2.2.2.2.2.1 _ rfl))
noncomputable def d_X10_cubeAt (x0 : Nat) (x1 : Int32) (m : dc_M) : Option (Int32 × dc_M) :=
  (d_X10_cubeAt_l20 x0 x1 (0 : Int64) (m.1 x0 57) (m.1 x0 58) (0 : Int32) (0 : Int32) m)
set_option maxHeartbeats 8000000 in
theorem k_X10_cubeAt {u : Nat} {N : Nat} {Φ : (Option (Int32 × dc_M)) → Option Value → dc_M → Prop} (x0 : Nat) (x1 : Int32) (m : dc_M) (kR : ∀ (v : Int32) (m : dc_M), Φ (some ((v, m))) (some (.int v)) m)  {lv : ab_L} (f0 : ab_lk lv 0 = some (.ref x0)) (f1 : ab_lk lv 1 = some (.int x1)) : dc_pv u N ab_M_X10_cubeAt 0 lv [] m (Φ (d_X10_cubeAt x0 x1 m)) := by
  refine dc_pv.mono (dc_ok (C := C_X10_cubeAt) (S := S_X10_cubeAt) CO_X10_cubeAt 400 0 [(0, .ref x0), (1, .int x1)] lv [] m (dc_sub_cons f0 (dc_sub_cons f1 (dc_sub_nil))) ?_) (Nat.le_succ N)
  unfold d_X10_cubeAt
  refine dg_s (pc' := 1) [.long (0 : Int64)] rfl (fun _ => rfl) rfl ?_
  refine dg_L (pc' := 2) [(2, .long (0 : Int64)), (0, .ref x0), (1, .int x1)] [] rfl (fun _ => rfl) rfl ?_
  refine dg_s (pc' := 3) [.ref x0] rfl (fun _ => rfl) rfl ?_
  refine dg_s (pc' := 6) [.int (m.1 x0 57)] rfl (fun _ => rfl) rfl ?_
  refine dg_L (pc' := 8) [(4, .int (m.1 x0 57)), (2, .long (0 : Int64)), (0, .ref x0), (1, .int x1)] [] rfl (fun _ => rfl) rfl ?_
  refine dg_s (pc' := 9) [.ref x0] rfl (fun _ => rfl) rfl ?_
  refine dg_s (pc' := 12) [.int (m.1 x0 58)] rfl (fun _ => rfl) rfl ?_
  refine dg_L (pc' := 14) [(5, .int (m.1 x0 58)), (4, .int (m.1 x0 57)), (2, .long (0 : Int64)), (0, .ref x0), (1, .int x1)] [] rfl (fun _ => rfl) rfl ?_
  refine dg_s (pc' := 15) [.int (0 : Int32)] rfl (fun _ => rfl) rfl ?_
  refine dg_L (pc' := 17) [(6, .int (0 : Int32)), (5, .int (m.1 x0 58)), (4, .int (m.1 x0 57)), (2, .long (0 : Int64)), (0, .ref x0), (1, .int x1)] [] rfl (fun _ => rfl) rfl ?_
  refine dg_s (pc' := 18) [.int (0 : Int32)] rfl (fun _ => rfl) rfl ?_
  refine dw_L (pc' := 20) [(7, .int (0 : Int32)), (6, .int (0 : Int32)), (5, .int (m.1 x0 58)), (4, .int (m.1 x0 57)), (2, .long (0 : Int64)), (0, .ref x0), (1, .int x1)] [] rfl (fun _ => rfl) ?_
  exact dw_j rfl (fun lv1 hv => k_X10_cubeAt_l20 (Φ := (fun t => Φ t)) x0 x1 (fun _a _b => kR _a _b) N  (0 : Int64) (m.1 x0 57) (m.1 x0 58) (0 : Int32) (0 : Int32) m lv1 (hv.1 _ rfl) (hv.2.1 _ rfl) (hv.2.2.1 _ rfl) (hv.2.2.2.1 _ rfl) (hv.2.2.2.2.1 _ rfl) (hv.2.2.2.2.2.1 _ rfl) (hv.2.2.2.2.2.2.1 _ rfl))
noncomputable def H_X10_cubeAt : dc_H := fun As m k => match As with
  | [.ref x0, .int x1] => (d_X10_cubeAt x0 x1 m).bind (fun q => k (some (.int q.1)) q.2)
  | _ => dc_kz
theorem H_X10_cubeAt_ok {u : Nat} : dc_cok u 198 H_X10_cubeAt := fun M' hG N As m k P hz hP => by
  obtain rfl : ab_M_X10_cubeAt = M' := Option.some.inj hG
  unfold H_X10_cubeAt at hP
  split at hP
  · rename_i x0 x1
    exact dc_pv.imp (k_X10_cubeAt (Φ := fun (t : Option (Int32 × dc_M)) r m' => P (t.bind (fun q => k (some (.int q.1)) q.2)) → P (k r m')) x0 x1 m (fun _ _ h => h) rfl rfl) (fun r m' h => h hP)
  · exact absurd hP hz
def C_X10_isOwn : List (Nat × dc_H) := [(162, H_X10_isWire)]
theorem CO_X10_isOwn {u : Nat} : dc_CO u C_X10_isOwn := dc_CO_cons H_X10_isWire_ok (dc_CO_nil)
def S_X10_isOwn : List (Nat × List Nat) := []
def d_X10_isOwn (x0 : Nat) (x1 : Int32) (m : dc_M) : Int32 :=
  (if (Int32.toInt (d_X10_isWire x0 x1 m)) = 0 then (0 : Int32) else (if (Int32.toInt (m.1 (x0 + 2) (Int32.toNatClampNeg x1))) ≤ 0 then (0 : Int32) else (1 : Int32)))
set_option maxHeartbeats 8000000 in
theorem k_X10_isOwn {u : Nat} {N : Nat} {Φ : Int32 → Option Value → dc_M → Prop} (x0 : Nat) (x1 : Int32) (m : dc_M) (kR : ∀ (v : Int32), Φ (v) (some (.int v)) m)  {lv : ab_L} (f0 : ab_lk lv 0 = some (.ref x0)) (f1 : ab_lk lv 1 = some (.int x1)) : dc_pv u N ab_M_X10_isOwn 0 lv [] m (Φ (d_X10_isOwn x0 x1 m)) := by
  refine dc_pv.mono (dc_ok (C := C_X10_isOwn) (S := S_X10_isOwn) CO_X10_isOwn 400 0 [(0, .ref x0), (1, .int x1)] lv [] m (dc_sub_cons f0 (dc_sub_cons f1 (dc_sub_nil))) ?_) (Nat.le_succ N)
  unfold d_X10_isOwn
  refine dg_s (pc' := 1) [.ref x0] rfl (fun _ => rfl) rfl ?_
  refine dg_s (pc' := 2) [.int x1, .ref x0] rfl (fun _ => rfl) rfl ?_
  refine dg_s (pc' := 5) [.int (d_X10_isWire x0 x1 m)] rfl (fun _ => rfl) rfl ?_
  refine dw_if (fun t => Φ t) ((Int32.toInt (d_X10_isWire x0 x1 m)) = 0) [] 21 8 rfl (fun _ => rfl) (fun c0 => ?_) (fun c0 => ?_)
  · refine dw_g rfl ?_
    refine dg_s (pc' := 22) [.int (0 : Int32)] rfl (fun _ => rfl) rfl ?_
    exact dw_r (some (.inl (some (.int (0 : Int32)), m))) rfl (fun _ => rfl) (kR _)
  · refine dw_g rfl ?_
    refine dg_s (pc' := 9) [.ref x0] rfl (fun _ => rfl) rfl ?_
    refine dg_s (pc' := 12) [.ref (x0 + 2)] rfl (fun _ => rfl) rfl ?_
    refine dg_s (pc' := 13) [.int x1, .ref (x0 + 2)] rfl (fun _ => rfl) rfl ?_
    refine dg_s (pc' := 14) [.int (m.1 (x0 + 2) (Int32.toNatClampNeg x1))] rfl (fun _ => rfl) rfl ?_
    refine dw_if (fun t => Φ t) ((Int32.toInt (m.1 (x0 + 2) (Int32.toNatClampNeg x1))) ≤ 0) [] 21 17 rfl (fun _ => rfl) (fun c1 => ?_) (fun c1 => ?_)
    · refine dw_g rfl ?_
      refine dg_s (pc' := 22) [.int (0 : Int32)] rfl (fun _ => rfl) rfl ?_
      exact dw_r (some (.inl (some (.int (0 : Int32)), m))) rfl (fun _ => rfl) (kR _)
    · refine dw_g rfl ?_
      refine dg_s (pc' := 18) [.int (1 : Int32)] rfl (fun _ => rfl) rfl ?_
      refine dg_s (pc' := 22) [.int (1 : Int32)] rfl (fun _ => rfl) rfl ?_
      exact dw_r (some (.inl (some (.int (1 : Int32)), m))) rfl (fun _ => rfl) (kR _)
def H_X10_isOwn : dc_H := fun As m k => match As with
  | [.ref x0, .int x1] => k (some (.int (d_X10_isOwn x0 x1 m))) m
  | _ => dc_kz
theorem H_X10_isOwn_ok {u : Nat} : dc_cok u 199 H_X10_isOwn := fun M' hG N As m k P hz hP => by
  obtain rfl : ab_M_X10_isOwn = M' := Option.some.inj hG
  unfold H_X10_isOwn at hP
  split at hP
  · rename_i x0 x1
    exact dc_pv.imp (k_X10_isOwn (Φ := fun (t : Int32) r m' => P (k (some (.int t)) m) → P (k r m')) x0 x1 m (fun _  h => h) rfl rfl) (fun r m' h => h hP)
  · exact absurd hP hz
noncomputable def C_X10_makes : List (Nat × dc_H) := [(198, H_X10_cubeAt), (146, H_X10_in), (199, H_X10_isOwn), (188, H_X10_layAims), (197, H_X10_layMakes), (175, H_X10_layRight)]
theorem CO_X10_makes {u : Nat} : dc_CO u C_X10_makes := dc_CO_cons H_X10_cubeAt_ok (dc_CO_cons H_X10_in_ok (dc_CO_cons H_X10_isOwn_ok (dc_CO_cons H_X10_layAims_ok (dc_CO_cons H_X10_layMakes_ok (dc_CO_cons H_X10_layRight_ok (dc_CO_nil))))))
def S_X10_makes : List (Nat × List Nat) := [(34, [0, 1, 2])]
noncomputable def d_X10_makes_b34 (x0 : Nat) (x1 : Int32) (x2 : Int32) (m : dc_M) : Option (Int32 × dc_M) :=
  ((d_X10_layRight x0 m).bind (fun q1 => (if ¬ (Int32.toInt q1.1) = 0 then ((d_X10_layAims x0 x1 q1.2).bind (fun q2 => (if (Int32.toInt (lg_cmp ((q2.2.1 x0 47) &&& (q2.2.1 x0 48)) (0 : Int64))) = 0 then ((d_X10_layMakes x0 q2).bind (fun q3 => (if ¬ (Int32.toInt x2) = 0 then (if ¬ (Int32.toInt x2) = 1 then (if (Int32.toInt (q3.1 x0 57)) ≤ (Int32.toInt (x2 - (10 : Int32))) then some (((-4 : Int32), q3)) else ((d_X10_cubeAt x0 (x2 - (10 : Int32)) q3).bind (fun q4 => some ((q4.1, q4.2))))) else some (((q3.1 x0 58), q3))) else some (((q3.1 x0 57), q3))))) else some (((-2 : Int32), q2))))) else some (((-2 : Int32), q1.2)))))
set_option maxHeartbeats 8000000 in
theorem k_X10_makes_b34 {u : Nat} {N : Nat} {Φ : (Option (Int32 × dc_M)) → Option Value → dc_M → Prop} (x0 : Nat) (x1 : Int32) (x2 : Int32) (m : dc_M) (kR : ∀ (v : Int32) (m : dc_M), Φ (some ((v, m))) (some (.int v)) m)  {lv : ab_L} (f0 : ab_lk lv 0 = some (.ref x0)) (f1 : ab_lk lv 1 = some (.int x1)) (f2 : ab_lk lv 2 = some (.int x2)) : dc_pv u N ab_M_X10_makes 34 lv [] m (Φ (d_X10_makes_b34 x0 x1 x2 m)) := by
  refine dc_pv.mono (dc_ok (C := C_X10_makes) (S := S_X10_makes) CO_X10_makes 400 34 [(0, .ref x0), (1, .int x1), (2, .int x2)] lv [] m (dc_sub_cons f0 (dc_sub_cons f1 (dc_sub_cons f2 (dc_sub_nil)))) ?_) (Nat.le_succ N)
  unfold d_X10_makes_b34
  refine dg_s (pc' := 35) [.ref x0] rfl (fun _ => rfl) rfl ?_
  refine dw_b (fun t => Φ t) (pc' := 38) (fun q1 => [.int q1.1]) (fun q1 => q1.2) rfl (fun _ => rfl) (fun q1 => ?_)
  refine dw_g rfl ?_
  refine dw_if (fun t => Φ t) (¬ (Int32.toInt q1.1) = 0) [] 44 41 rfl (fun _ => rfl) (fun c0 => ?_) (fun c0 => ?_)
  · refine dw_g rfl ?_
    refine dg_s (pc' := 45) [.ref x0] rfl (fun _ => rfl) rfl ?_
    refine dg_s (pc' := 46) [.int x1, .ref x0] rfl (fun _ => rfl) rfl ?_
    refine dw_b (fun t => Φ t) (pc' := 49) (fun q2 => []) (fun q2 => q2) rfl (fun _ => rfl) (fun q2 => ?_)
    refine dw_g rfl ?_
    refine dg_s (pc' := 50) [.ref x0] rfl (fun _ => rfl) rfl ?_
    refine dg_s (pc' := 53) [.long (q2.2.1 x0 47)] rfl (fun _ => rfl) rfl ?_
    refine dg_s (pc' := 54) [.ref x0, .long (q2.2.1 x0 47)] rfl (fun _ => rfl) rfl ?_
    refine dg_s (pc' := 57) [.long (q2.2.1 x0 48), .long (q2.2.1 x0 47)] rfl (fun _ => rfl) rfl ?_
    refine dg_s (pc' := 58) [.long ((q2.2.1 x0 47) &&& (q2.2.1 x0 48))] rfl (fun _ => rfl) rfl ?_
    refine dg_s (pc' := 59) [.long (0 : Int64), .long ((q2.2.1 x0 47) &&& (q2.2.1 x0 48))] rfl (fun _ => rfl) rfl ?_
    refine dg_s (pc' := 60) [.int (lg_cmp ((q2.2.1 x0 47) &&& (q2.2.1 x0 48)) (0 : Int64))] rfl (fun _ => rfl) rfl ?_
    refine dw_if (fun t => Φ t) ((Int32.toInt (lg_cmp ((q2.2.1 x0 47) &&& (q2.2.1 x0 48)) (0 : Int64))) = 0) [] 66 63 rfl (fun _ => rfl) (fun c1 => ?_) (fun c1 => ?_)
    · refine dw_g rfl ?_
      refine dg_s (pc' := 67) [.ref x0] rfl (fun _ => rfl) rfl ?_
      refine dw_b (fun t => Φ t) (pc' := 70) (fun q3 => []) (fun q3 => q3) rfl (fun _ => rfl) (fun q3 => ?_)
      refine dw_g rfl ?_
      refine dg_s (pc' := 71) [.int x2] rfl (fun _ => rfl) rfl ?_
      refine dw_if (fun t => Φ t) (¬ (Int32.toInt x2) = 0) [] 81 74 rfl (fun _ => rfl) (fun c2 => ?_) (fun c2 => ?_)
      · refine dw_g rfl ?_
        refine dg_s (pc' := 82) [.int x2] rfl (fun _ => rfl) rfl ?_
        refine dg_s (pc' := 83) [.int (1 : Int32), .int x2] rfl (fun _ => rfl) rfl ?_
        refine dw_if (fun t => Φ t) (¬ (Int32.toInt x2) = 1) [] 93 86 rfl (fun _ => rfl) (fun c3 => ?_) (fun c3 => ?_)
        · refine dw_g rfl ?_
          refine dg_s (pc' := 94) [.int x2] rfl (fun _ => rfl) rfl ?_
          refine dg_s (pc' := 96) [.int (10 : Int32), .int x2] rfl (fun _ => rfl) rfl ?_
          refine dg_s (pc' := 97) [.int (x2 - (10 : Int32))] rfl (fun _ => rfl) rfl ?_
          refine dg_s (pc' := 98) [.ref x0, .int (x2 - (10 : Int32))] rfl (fun _ => rfl) rfl ?_
          refine dg_s (pc' := 101) [.int (q3.1 x0 57), .int (x2 - (10 : Int32))] rfl (fun _ => rfl) rfl ?_
          refine dw_if (fun t => Φ t) ((Int32.toInt (q3.1 x0 57)) ≤ (Int32.toInt (x2 - (10 : Int32)))) [] 115 104 rfl (fun _ => rfl) (fun c4 => ?_) (fun c4 => ?_)
          · refine dw_g rfl ?_
            refine dg_s (pc' := 117) [.int (-4 : Int32)] rfl (fun _ => rfl) rfl ?_
            exact dw_r (some (.inl (some (.int (-4 : Int32)), q3))) rfl (fun _ => rfl) (kR _ _)
          · refine dw_g rfl ?_
            refine dg_s (pc' := 105) [.ref x0] rfl (fun _ => rfl) rfl ?_
            refine dg_s (pc' := 106) [.int x2, .ref x0] rfl (fun _ => rfl) rfl ?_
            refine dg_s (pc' := 108) [.int (10 : Int32), .int x2, .ref x0] rfl (fun _ => rfl) rfl ?_
            refine dg_s (pc' := 109) [.int (x2 - (10 : Int32)), .ref x0] rfl (fun _ => rfl) rfl ?_
            refine dw_b (fun t => Φ t) (pc' := 112) (fun q4 => [.int q4.1]) (fun q4 => q4.2) rfl (fun _ => rfl) (fun q4 => ?_)
            refine dw_g rfl ?_
            refine dg_s (pc' := 117) [.int q4.1] rfl (fun _ => rfl) rfl ?_
            exact dw_r (some (.inl (some (.int q4.1), q4.2))) rfl (fun _ => rfl) (kR _ _)
        · refine dw_g rfl ?_
          refine dg_s (pc' := 87) [.ref x0] rfl (fun _ => rfl) rfl ?_
          refine dg_s (pc' := 90) [.int (q3.1 x0 58)] rfl (fun _ => rfl) rfl ?_
          refine dg_s (pc' := 117) [.int (q3.1 x0 58)] rfl (fun _ => rfl) rfl ?_
          exact dw_r (some (.inl (some (.int (q3.1 x0 58)), q3))) rfl (fun _ => rfl) (kR _ _)
      · refine dw_g rfl ?_
        refine dg_s (pc' := 75) [.ref x0] rfl (fun _ => rfl) rfl ?_
        refine dg_s (pc' := 78) [.int (q3.1 x0 57)] rfl (fun _ => rfl) rfl ?_
        refine dg_s (pc' := 117) [.int (q3.1 x0 57)] rfl (fun _ => rfl) rfl ?_
        exact dw_r (some (.inl (some (.int (q3.1 x0 57)), q3))) rfl (fun _ => rfl) (kR _ _)
    · refine dw_g rfl ?_
      refine dg_s (pc' := 65) [.int (-2 : Int32)] rfl (fun _ => rfl) rfl ?_
      exact dw_r (some (.inl (some (.int (-2 : Int32)), q2))) rfl (fun _ => rfl) (kR _ _)
  · refine dw_g rfl ?_
    refine dg_s (pc' := 43) [.int (-2 : Int32)] rfl (fun _ => rfl) rfl ?_
    exact dw_r (some (.inl (some (.int (-2 : Int32)), q1.2))) rfl (fun _ => rfl) (kR _ _)
noncomputable def d_X10_makes (x0 : Nat) (x1 : Int32) (x2 : Int32) (m : dc_M) : Option (Int32 × dc_M) :=
  (if (Int32.toInt (d_X10_isOwn x0 x1 m)) = 0 then some (((-1 : Int32), m)) else (if ¬ (Int32.toInt (d_X10_in (Int32.toInt64 x2) (0 : Int64) (1 : Int64) m)) = 0 then (d_X10_makes_b34 x0 x1 x2 m) else (if ¬ (Int32.toInt (d_X10_in (Int32.toInt64 x2) (10 : Int64) (73 : Int64) m)) = 0 then (d_X10_makes_b34 x0 x1 x2 m) else some (((-1 : Int32), m)))))
set_option maxHeartbeats 8000000 in
theorem k_X10_makes {u : Nat} {N : Nat} {Φ : (Option (Int32 × dc_M)) → Option Value → dc_M → Prop} (x0 : Nat) (x1 : Int32) (x2 : Int32) (m : dc_M) (kR : ∀ (v : Int32) (m : dc_M), Φ (some ((v, m))) (some (.int v)) m)  {lv : ab_L} (f0 : ab_lk lv 0 = some (.ref x0)) (f1 : ab_lk lv 1 = some (.int x1)) (f2 : ab_lk lv 2 = some (.int x2)) : dc_pv u N ab_M_X10_makes 0 lv [] m (Φ (d_X10_makes x0 x1 x2 m)) := by
  refine dc_pv.mono (dc_ok (C := C_X10_makes) (S := S_X10_makes) CO_X10_makes 400 0 [(0, .ref x0), (1, .int x1), (2, .int x2)] lv [] m (dc_sub_cons f0 (dc_sub_cons f1 (dc_sub_cons f2 (dc_sub_nil)))) ?_) (Nat.le_succ N)
  unfold d_X10_makes
  refine dg_s (pc' := 1) [.ref x0] rfl (fun _ => rfl) rfl ?_
  refine dg_s (pc' := 2) [.int x1, .ref x0] rfl (fun _ => rfl) rfl ?_
  refine dg_s (pc' := 5) [.int (d_X10_isOwn x0 x1 m)] rfl (fun _ => rfl) rfl ?_
  refine dw_if (fun t => Φ t) ((Int32.toInt (d_X10_isOwn x0 x1 m)) = 0) [] 32 8 rfl (fun _ => rfl) (fun c0 => ?_) (fun c0 => ?_)
  · refine dw_g rfl ?_
    refine dg_s (pc' := 33) [.int (-1 : Int32)] rfl (fun _ => rfl) rfl ?_
    exact dw_r (some (.inl (some (.int (-1 : Int32)), m))) rfl (fun _ => rfl) (kR _ _)
  · refine dw_g rfl ?_
    refine dg_s (pc' := 9) [.int x2] rfl (fun _ => rfl) rfl ?_
    refine dg_s (pc' := 10) [.long (Int32.toInt64 x2)] rfl (fun _ => rfl) rfl ?_
    refine dg_s (pc' := 11) [.long (0 : Int64), .long (Int32.toInt64 x2)] rfl (fun _ => rfl) rfl ?_
    refine dg_s (pc' := 12) [.long (1 : Int64), .long (0 : Int64), .long (Int32.toInt64 x2)] rfl (fun _ => rfl) rfl ?_
    refine dg_s (pc' := 15) [.int (d_X10_in (Int32.toInt64 x2) (0 : Int64) (1 : Int64) m)] rfl (fun _ => rfl) rfl ?_
    refine dw_if (fun t => Φ t) (¬ (Int32.toInt (d_X10_in (Int32.toInt64 x2) (0 : Int64) (1 : Int64) m)) = 0) [] 34 18 rfl (fun _ => rfl) (fun c1 => ?_) (fun c1 => ?_)
    · exact dw_j rfl (fun lv1 hv => k_X10_makes_b34 (Φ := (fun t => Φ t)) x0 x1 x2 m (fun _a _b => kR _a _b)  (hv.1 _ rfl) (hv.2.1 _ rfl) (hv.2.2.1 _ rfl))
    · refine dw_g rfl ?_
      refine dg_s (pc' := 19) [.int x2] rfl (fun _ => rfl) rfl ?_
      refine dg_s (pc' := 20) [.long (Int32.toInt64 x2)] rfl (fun _ => rfl) rfl ?_
      refine dg_s (pc' := 23) [.long (10 : Int64), .long (Int32.toInt64 x2)] rfl (fun _ => rfl) rfl ?_
      refine dg_s (pc' := 26) [.long (73 : Int64), .long (10 : Int64), .long (Int32.toInt64 x2)] rfl (fun _ => rfl) rfl ?_
      refine dg_s (pc' := 29) [.int (d_X10_in (Int32.toInt64 x2) (10 : Int64) (73 : Int64) m)] rfl (fun _ => rfl) rfl ?_
      refine dw_if (fun t => Φ t) (¬ (Int32.toInt (d_X10_in (Int32.toInt64 x2) (10 : Int64) (73 : Int64) m)) = 0) [] 34 32 rfl (fun _ => rfl) (fun c2 => ?_) (fun c2 => ?_)
      · exact dw_j rfl (fun lv1 hv => k_X10_makes_b34 (Φ := (fun t => Φ t)) x0 x1 x2 m (fun _a _b => kR _a _b)  (hv.1 _ rfl) (hv.2.1 _ rfl) (hv.2.2.1 _ rfl))
      · refine dw_g rfl ?_
        refine dg_s (pc' := 33) [.int (-1 : Int32)] rfl (fun _ => rfl) rfl ?_
        exact dw_r (some (.inl (some (.int (-1 : Int32)), m))) rfl (fun _ => rfl) (kR _ _)
noncomputable def H_X10_makes : dc_H := fun As m k => match As with
  | [.ref x0, .int x1, .int x2] => (d_X10_makes x0 x1 x2 m).bind (fun q => k (some (.int q.1)) q.2)
  | _ => dc_kz
theorem H_X10_makes_ok {u : Nat} : dc_cok u 200 H_X10_makes := fun M' hG N As m k P hz hP => by
  obtain rfl : ab_M_X10_makes = M' := Option.some.inj hG
  unfold H_X10_makes at hP
  split at hP
  · rename_i x0 x1 x2
    exact dc_pv.imp (k_X10_makes (Φ := fun (t : Option (Int32 × dc_M)) r m' => P (t.bind (fun q => k (some (.int q.1)) q.2)) → P (k r m')) x0 x1 x2 m (fun _ _ h => h) rfl rfl rfl) (fun r m' h => h hP)
  · exact absurd hP hz
noncomputable def C_X10_judge : List (Nat × dc_H) := [(190, H_X10_cubeAll), (146, H_X10_in), (199, H_X10_isOwn), (188, H_X10_layAims), (175, H_X10_layRight), (191, H_X10_levelsOf)]
theorem CO_X10_judge {u : Nat} : dc_CO u C_X10_judge := dc_CO_cons H_X10_cubeAll_ok (dc_CO_cons H_X10_in_ok (dc_CO_cons H_X10_isOwn_ok (dc_CO_cons H_X10_layAims_ok (dc_CO_cons H_X10_layRight_ok (dc_CO_cons H_X10_levelsOf_ok (dc_CO_nil))))))
def S_X10_judge : List (Nat × List Nat) := [(114, [0, 2, 4, 5, 6, 8]), (204, [0, 6])]
noncomputable def d_X10_judge_b204 (x0 : Nat) (x6 : Int64) (m : dc_M) : Option (Int32 × dc_M) :=
  (if (Int32.toInt (lg_cmp (x6 &&& (m.2.1 x0 48)) (0 : Int64))) = 0 then (if (Int32.toInt (lg_cmp ((m.2.1 x0 47) &&& (x6 ^^^ (-1 : Int64))) (0 : Int64))) = 0 then some (((1 : Int32), m)) else some (((0 : Int32), m))) else some (((2 : Int32), m)))
set_option maxHeartbeats 8000000 in
theorem k_X10_judge_b204 {u : Nat} {N : Nat} {Φ : (Option (Int32 × dc_M)) → Option Value → dc_M → Prop} (x0 : Nat) (x6 : Int64) (m : dc_M) (kR : ∀ (v : Int32) (m : dc_M), Φ (some ((v, m))) (some (.int v)) m)  {lv : ab_L} (f0 : ab_lk lv 0 = some (.ref x0)) (f6 : ab_lk lv 6 = some (.long x6)) : dc_pv u N ab_M_X10_judge 204 lv [] m (Φ (d_X10_judge_b204 x0 x6 m)) := by
  refine dc_pv.mono (dc_ok (C := C_X10_judge) (S := S_X10_judge) CO_X10_judge 400 204 [(0, .ref x0), (6, .long x6)] lv [] m (dc_sub_cons f0 (dc_sub_cons f6 (dc_sub_nil))) ?_) (Nat.le_succ N)
  unfold d_X10_judge_b204
  refine dg_s (pc' := 206) [.long x6] rfl (fun _ => rfl) rfl ?_
  refine dg_s (pc' := 207) [.ref x0, .long x6] rfl (fun _ => rfl) rfl ?_
  refine dg_s (pc' := 210) [.long (m.2.1 x0 48), .long x6] rfl (fun _ => rfl) rfl ?_
  refine dg_s (pc' := 211) [.long (x6 &&& (m.2.1 x0 48))] rfl (fun _ => rfl) rfl ?_
  refine dg_s (pc' := 212) [.long (0 : Int64), .long (x6 &&& (m.2.1 x0 48))] rfl (fun _ => rfl) rfl ?_
  refine dg_s (pc' := 213) [.int (lg_cmp (x6 &&& (m.2.1 x0 48)) (0 : Int64))] rfl (fun _ => rfl) rfl ?_
  refine dw_if (fun t => Φ t) ((Int32.toInt (lg_cmp (x6 &&& (m.2.1 x0 48)) (0 : Int64))) = 0) [] 220 216 rfl (fun _ => rfl) (fun c0 => ?_) (fun c0 => ?_)
  · refine dw_g rfl ?_
    refine dg_s (pc' := 221) [.ref x0] rfl (fun _ => rfl) rfl ?_
    refine dg_s (pc' := 224) [.long (m.2.1 x0 47)] rfl (fun _ => rfl) rfl ?_
    refine dg_s (pc' := 226) [.long x6, .long (m.2.1 x0 47)] rfl (fun _ => rfl) rfl ?_
    refine dg_s (pc' := 229) [.long (-1 : Int64), .long x6, .long (m.2.1 x0 47)] rfl (fun _ => rfl) rfl ?_
    refine dg_s (pc' := 230) [.long (x6 ^^^ (-1 : Int64)), .long (m.2.1 x0 47)] rfl (fun _ => rfl) rfl ?_
    refine dg_s (pc' := 231) [.long ((m.2.1 x0 47) &&& (x6 ^^^ (-1 : Int64)))] rfl (fun _ => rfl) rfl ?_
    refine dg_s (pc' := 232) [.long (0 : Int64), .long ((m.2.1 x0 47) &&& (x6 ^^^ (-1 : Int64)))] rfl (fun _ => rfl) rfl ?_
    refine dg_s (pc' := 233) [.int (lg_cmp ((m.2.1 x0 47) &&& (x6 ^^^ (-1 : Int64))) (0 : Int64))] rfl (fun _ => rfl) rfl ?_
    refine dw_if (fun t => Φ t) ((Int32.toInt (lg_cmp ((m.2.1 x0 47) &&& (x6 ^^^ (-1 : Int64))) (0 : Int64))) = 0) [] 240 236 rfl (fun _ => rfl) (fun c1 => ?_) (fun c1 => ?_)
    · refine dw_g rfl ?_
      refine dg_s (pc' := 241) [.int (1 : Int32)] rfl (fun _ => rfl) rfl ?_
      exact dw_r (some (.inl (some (.int (1 : Int32)), m))) rfl (fun _ => rfl) (kR _ _)
    · refine dw_g rfl ?_
      refine dg_s (pc' := 237) [.int (0 : Int32)] rfl (fun _ => rfl) rfl ?_
      refine dg_s (pc' := 241) [.int (0 : Int32)] rfl (fun _ => rfl) rfl ?_
      exact dw_r (some (.inl (some (.int (0 : Int32)), m))) rfl (fun _ => rfl) (kR _ _)
  · refine dw_g rfl ?_
    refine dg_s (pc' := 217) [.int (2 : Int32)] rfl (fun _ => rfl) rfl ?_
    refine dg_s (pc' := 241) [.int (2 : Int32)] rfl (fun _ => rfl) rfl ?_
    exact dw_r (some (.inl (some (.int (2 : Int32)), m))) rfl (fun _ => rfl) (kR _ _)
noncomputable def d_X10_judge_l114b (x0 : Nat) (x2 : Int32) (x4 : Int32) (x5 : Int32) (x6 : Int64) (x8 : Int32) (m : dc_M) : Option ((Int64 × Int32) ⊕ (Int32 × dc_M)) :=
  (if (Int32.toInt x5) ≤ (Int32.toInt x8) then ((d_X10_judge_b204 x0 x6 m).map (fun z => Sum.inr (z))) else (if ¬ (Int32.toInt (d_X10_in ((Int32.toInt64 x4) + (Int32.toInt64 x8)) (0 : Int64) (Int32.toInt64 ((m.1 (x0 + 36) (Int32.toNatClampNeg x2)) - (1 : Int32))) m)) = 0 then ((d_X10_cubeAll x0 m).bind (fun q1 => (if ¬ (Int32.toInt (d_X10_in (Int32.toInt64 (m.1 (x0 + 37) (Int32.toNatClampNeg ((((64 : Int32) * x2) + x4) + x8)))) (0 : Int64) (Int32.toInt64 (q1 - (1 : Int32))) m)) = 0 then ((d_X10_levelsOf x0 (m.1 (x0 + 37) (Int32.toNatClampNeg ((((64 : Int32) * x2) + x4) + x8))) m).bind (fun q2 => some (Sum.inl ((x6 ||| q2), (x8 + (1 : Int32)))))) else some (Sum.inr ((((-20 : Int32) - x8), m)))))) else some (Sum.inr (((-12 : Int32), m)))))
noncomputable def d_X10_judge_l114s (x0 : Nat) (x2 : Int32) (x4 : Int32) (x5 : Int32) (m : dc_M) : (Int64 × Int32) → Option ((Int64 × Int32) ⊕ (Int32 × dc_M)) := fun s => d_X10_judge_l114b x0 x2 x4 x5 s.1 s.2 m
noncomputable def d_X10_judge_l114 (x0 : Nat) (x2 : Int32) (x4 : Int32) (x5 : Int32) (x6 : Int64) (x8 : Int32) (m : dc_M) : Option (Int32 × dc_M) := dc_lp (d_X10_judge_l114s x0 x2 x4 x5 m) (x6, x8)
set_option maxHeartbeats 8000000 in
theorem k_X10_judge_l114 {u : Nat} {Φ : (Option (Int32 × dc_M)) → Option Value → dc_M → Prop} (x0 : Nat) (x2 : Int32) (x4 : Int32) (x5 : Int32) (m : dc_M) (kR : ∀ (v : Int32) (m : dc_M), Φ (some ((v, m))) (some (.int v)) m) : ∀ (N : Nat), ∀ (x6 : Int64) (x8 : Int32) (lv : ab_L), ab_lk lv 0 = some (.ref x0) → ab_lk lv 2 = some (.int x2) → ab_lk lv 4 = some (.int x4) → ab_lk lv 5 = some (.int x5) → ab_lk lv 6 = some (.long x6) → ab_lk lv 8 = some (.int x8) → dc_pv u N ab_M_X10_judge 114 lv [] m (Φ (d_X10_judge_l114 x0 x2 x4 x5 x6 x8 m)) := by
  intro N
  induction N with
  | zero => intros; exact dc_pv_zero
  | succ N ih =>
    intro x6 x8 lv f0 f2 f4 f5 f6 f8
    refine dc_ok (C := C_X10_judge) (S := S_X10_judge) CO_X10_judge 400 114 [(0, .ref x0), (2, .int x2), (4, .int x4), (5, .int x5), (6, .long x6), (8, .int x8)] lv [] m (dc_sub_cons f0 (dc_sub_cons f2 (dc_sub_cons f4 (dc_sub_cons f5 (dc_sub_cons f6 (dc_sub_cons f8 (dc_sub_nil))))))) ?_
    unfold d_X10_judge_l114
    rw [dc_lp_eq]
    show (fun t x => dc_lf u N ab_M_X10_judge (Φ (Option.bind t (dc_bk (d_X10_judge_l114s x0 x2 x4 x5 m)))) x) (d_X10_judge_l114b x0 x2 x4 x5 x6 x8 m) _
    dsimp only
    unfold d_X10_judge_l114b
    refine dg_s (pc' := 116) [.int x8] rfl (fun _ => rfl) rfl ?_
    refine dg_s (pc' := 118) [.int x5, .int x8] rfl (fun _ => rfl) rfl ?_
    refine dw_if (fun t => Φ (Option.bind t (dc_bk (d_X10_judge_l114s x0 x2 x4 x5 m)))) ((Int32.toInt x5) ≤ (Int32.toInt x8)) [] 204 121 rfl (fun _ => rfl) (fun c0 => ?_) (fun c0 => ?_)
    · exact dw_j rfl (fun lv1 hv => k_X10_judge_b204 (Φ := (fun t => Φ (Option.bind (t.map (fun z => Sum.inr (z))) (dc_bk (d_X10_judge_l114s x0 x2 x4 x5 m))))) x0 x6 m (fun _a _b => kR _a _b)  (hv.1 _ rfl) (hv.2.1 _ rfl))
    · refine dw_g rfl ?_
      refine dg_s (pc' := 123) [.int x4] rfl (fun _ => rfl) rfl ?_
      refine dg_s (pc' := 124) [.long (Int32.toInt64 x4)] rfl (fun _ => rfl) rfl ?_
      refine dg_s (pc' := 126) [.int x8, .long (Int32.toInt64 x4)] rfl (fun _ => rfl) rfl ?_
      refine dg_s (pc' := 127) [.long (Int32.toInt64 x8), .long (Int32.toInt64 x4)] rfl (fun _ => rfl) rfl ?_
      refine dg_s (pc' := 128) [.long ((Int32.toInt64 x4) + (Int32.toInt64 x8))] rfl (fun _ => rfl) rfl ?_
      refine dg_s (pc' := 129) [.long (0 : Int64), .long ((Int32.toInt64 x4) + (Int32.toInt64 x8))] rfl (fun _ => rfl) rfl ?_
      refine dg_s (pc' := 130) [.ref x0, .long (0 : Int64), .long ((Int32.toInt64 x4) + (Int32.toInt64 x8))] rfl (fun _ => rfl) rfl ?_
      refine dg_s (pc' := 133) [.ref (x0 + 36), .long (0 : Int64), .long ((Int32.toInt64 x4) + (Int32.toInt64 x8))] rfl (fun _ => rfl) rfl ?_
      refine dg_s (pc' := 134) [.int x2, .ref (x0 + 36), .long (0 : Int64), .long ((Int32.toInt64 x4) + (Int32.toInt64 x8))] rfl (fun _ => rfl) rfl ?_
      refine dg_s (pc' := 135) [.int (m.1 (x0 + 36) (Int32.toNatClampNeg x2)), .long (0 : Int64), .long ((Int32.toInt64 x4) + (Int32.toInt64 x8))] rfl (fun _ => rfl) rfl ?_
      refine dg_s (pc' := 136) [.int (1 : Int32), .int (m.1 (x0 + 36) (Int32.toNatClampNeg x2)), .long (0 : Int64), .long ((Int32.toInt64 x4) + (Int32.toInt64 x8))] rfl (fun _ => rfl) rfl ?_
      refine dg_s (pc' := 137) [.int ((m.1 (x0 + 36) (Int32.toNatClampNeg x2)) - (1 : Int32)), .long (0 : Int64), .long ((Int32.toInt64 x4) + (Int32.toInt64 x8))] rfl (fun _ => rfl) rfl ?_
      refine dg_s (pc' := 138) [.long (Int32.toInt64 ((m.1 (x0 + 36) (Int32.toNatClampNeg x2)) - (1 : Int32))), .long (0 : Int64), .long ((Int32.toInt64 x4) + (Int32.toInt64 x8))] rfl (fun _ => rfl) rfl ?_
      refine dg_s (pc' := 141) [.int (d_X10_in ((Int32.toInt64 x4) + (Int32.toInt64 x8)) (0 : Int64) (Int32.toInt64 ((m.1 (x0 + 36) (Int32.toNatClampNeg x2)) - (1 : Int32))) m)] rfl (fun _ => rfl) rfl ?_
      refine dw_if (fun t => Φ (Option.bind t (dc_bk (d_X10_judge_l114s x0 x2 x4 x5 m)))) (¬ (Int32.toInt (d_X10_in ((Int32.toInt64 x4) + (Int32.toInt64 x8)) (0 : Int64) (Int32.toInt64 ((m.1 (x0 + 36) (Int32.toNatClampNeg x2)) - (1 : Int32))) m)) = 0) [] 147 144 rfl (fun _ => rfl) (fun c1 => ?_) (fun c1 => ?_)
      · refine dw_g rfl ?_
        refine dg_s (pc' := 148) [.ref x0] rfl (fun _ => rfl) rfl ?_
        refine dg_s (pc' := 151) [.ref (x0 + 37)] rfl (fun _ => rfl) rfl ?_
        refine dg_s (pc' := 153) [.int (64 : Int32), .ref (x0 + 37)] rfl (fun _ => rfl) rfl ?_
        refine dg_s (pc' := 154) [.int x2, .int (64 : Int32), .ref (x0 + 37)] rfl (fun _ => rfl) rfl ?_
        refine dg_s (pc' := 155) [.int ((64 : Int32) * x2), .ref (x0 + 37)] rfl (fun _ => rfl) rfl ?_
        refine dg_s (pc' := 157) [.int x4, .int ((64 : Int32) * x2), .ref (x0 + 37)] rfl (fun _ => rfl) rfl ?_
        refine dg_s (pc' := 158) [.int (((64 : Int32) * x2) + x4), .ref (x0 + 37)] rfl (fun _ => rfl) rfl ?_
        refine dg_s (pc' := 160) [.int x8, .int (((64 : Int32) * x2) + x4), .ref (x0 + 37)] rfl (fun _ => rfl) rfl ?_
        refine dg_s (pc' := 161) [.int ((((64 : Int32) * x2) + x4) + x8), .ref (x0 + 37)] rfl (fun _ => rfl) rfl ?_
        refine dg_s (pc' := 162) [.int (m.1 (x0 + 37) (Int32.toNatClampNeg ((((64 : Int32) * x2) + x4) + x8)))] rfl (fun _ => rfl) rfl ?_
        refine dg_L (pc' := 164) [(9, .int (m.1 (x0 + 37) (Int32.toNatClampNeg ((((64 : Int32) * x2) + x4) + x8)))), (0, .ref x0), (2, .int x2), (4, .int x4), (5, .int x5), (6, .long x6), (8, .int x8)] [] rfl (fun _ => rfl) rfl ?_
        refine dg_s (pc' := 166) [.int (m.1 (x0 + 37) (Int32.toNatClampNeg ((((64 : Int32) * x2) + x4) + x8)))] rfl (fun _ => rfl) rfl ?_
        refine dg_s (pc' := 167) [.long (Int32.toInt64 (m.1 (x0 + 37) (Int32.toNatClampNeg ((((64 : Int32) * x2) + x4) + x8))))] rfl (fun _ => rfl) rfl ?_
        refine dg_s (pc' := 168) [.long (0 : Int64), .long (Int32.toInt64 (m.1 (x0 + 37) (Int32.toNatClampNeg ((((64 : Int32) * x2) + x4) + x8))))] rfl (fun _ => rfl) rfl ?_
        refine dg_s (pc' := 169) [.ref x0, .long (0 : Int64), .long (Int32.toInt64 (m.1 (x0 + 37) (Int32.toNatClampNeg ((((64 : Int32) * x2) + x4) + x8))))] rfl (fun _ => rfl) rfl ?_
        refine dw_b (fun t => Φ (Option.bind t (dc_bk (d_X10_judge_l114s x0 x2 x4 x5 m)))) (pc' := 172) (fun q1 => [.int q1, .long (0 : Int64), .long (Int32.toInt64 (m.1 (x0 + 37) (Int32.toNatClampNeg ((((64 : Int32) * x2) + x4) + x8))))]) (fun q1 => m) rfl (fun _ => rfl) (fun q1 => ?_)
        refine dw_g rfl ?_
        refine dg_s (pc' := 173) [.int (1 : Int32), .int q1, .long (0 : Int64), .long (Int32.toInt64 (m.1 (x0 + 37) (Int32.toNatClampNeg ((((64 : Int32) * x2) + x4) + x8))))] rfl (fun _ => rfl) rfl ?_
        refine dg_s (pc' := 174) [.int (q1 - (1 : Int32)), .long (0 : Int64), .long (Int32.toInt64 (m.1 (x0 + 37) (Int32.toNatClampNeg ((((64 : Int32) * x2) + x4) + x8))))] rfl (fun _ => rfl) rfl ?_
        refine dg_s (pc' := 175) [.long (Int32.toInt64 (q1 - (1 : Int32))), .long (0 : Int64), .long (Int32.toInt64 (m.1 (x0 + 37) (Int32.toNatClampNeg ((((64 : Int32) * x2) + x4) + x8))))] rfl (fun _ => rfl) rfl ?_
        refine dg_s (pc' := 178) [.int (d_X10_in (Int32.toInt64 (m.1 (x0 + 37) (Int32.toNatClampNeg ((((64 : Int32) * x2) + x4) + x8)))) (0 : Int64) (Int32.toInt64 (q1 - (1 : Int32))) m)] rfl (fun _ => rfl) rfl ?_
        refine dw_if (fun t => Φ (Option.bind t (dc_bk (d_X10_judge_l114s x0 x2 x4 x5 m)))) (¬ (Int32.toInt (d_X10_in (Int32.toInt64 (m.1 (x0 + 37) (Int32.toNatClampNeg ((((64 : Int32) * x2) + x4) + x8)))) (0 : Int64) (Int32.toInt64 (q1 - (1 : Int32))) m)) = 0) [] 187 181 rfl (fun _ => rfl) (fun c2 => ?_) (fun c2 => ?_)
        · refine dw_g rfl ?_
          refine dg_s (pc' := 189) [.long x6] rfl (fun _ => rfl) rfl ?_
          refine dg_s (pc' := 190) [.ref x0, .long x6] rfl (fun _ => rfl) rfl ?_
          refine dg_s (pc' := 192) [.int (m.1 (x0 + 37) (Int32.toNatClampNeg ((((64 : Int32) * x2) + x4) + x8))), .ref x0, .long x6] rfl (fun _ => rfl) rfl ?_
          refine dw_b (fun t => Φ (Option.bind t (dc_bk (d_X10_judge_l114s x0 x2 x4 x5 m)))) (pc' := 195) (fun q2 => [.long q2, .long x6]) (fun q2 => m) rfl (fun _ => rfl) (fun q2 => ?_)
          refine dw_g rfl ?_
          refine dg_s (pc' := 196) [.long (x6 ||| q2)] rfl (fun _ => rfl) rfl ?_
          refine dg_L (pc' := 198) [(6, .long (x6 ||| q2)), (9, .int (m.1 (x0 + 37) (Int32.toNatClampNeg ((((64 : Int32) * x2) + x4) + x8)))), (0, .ref x0), (2, .int x2), (4, .int x4), (5, .int x5), (8, .int x8)] [] rfl (fun _ => rfl) rfl ?_
          refine dg_L (pc' := 201) [(8, .int (x8 + (1 : Int32))), (6, .long (x6 ||| q2)), (9, .int (m.1 (x0 + 37) (Int32.toNatClampNeg ((((64 : Int32) * x2) + x4) + x8)))), (0, .ref x0), (2, .int x2), (4, .int x4), (5, .int x5)] [] rfl (fun _ => rfl) rfl ?_
          refine dw_s (pc' := 114) [] rfl (fun _ => rfl) ?_
          exact dw_j rfl (fun lv1 hv => ih (x6 ||| q2) (x8 + (1 : Int32)) lv1 (hv.1 _ rfl) (hv.2.1 _ rfl) (hv.2.2.1 _ rfl) (hv.2.2.2.1 _ rfl) (hv.2.2.2.2.1 _ rfl) (hv.2.2.2.2.2.1 _ rfl))
        · refine dw_g rfl ?_
          refine dg_s (pc' := 183) [.int (-20 : Int32)] rfl (fun _ => rfl) rfl ?_
          refine dg_s (pc' := 185) [.int x8, .int (-20 : Int32)] rfl (fun _ => rfl) rfl ?_
          refine dg_s (pc' := 186) [.int ((-20 : Int32) - x8)] rfl (fun _ => rfl) rfl ?_
          exact dw_r (some (.inl (some (.int ((-20 : Int32) - x8)), m))) rfl (fun _ => rfl) (kR _ _)
      · refine dw_g rfl ?_
        refine dg_s (pc' := 146) [.int (-12 : Int32)] rfl (fun _ => rfl) rfl ?_
        exact dw_r (some (.inl (some (.int (-12 : Int32)), m))) rfl (fun _ => rfl) (kR _ _)
noncomputable def d_X10_judge (x0 : Nat) (x1 : Int32) (x2 : Int32) (x3 : Int32) (x4 : Int32) (x5 : Int32) (m : dc_M) : Option (Int32 × dc_M) :=
  (if (Int32.toInt (d_X10_isOwn x0 x1 m)) = 0 then some (((-1 : Int32), m)) else (if (Int32.toInt (d_X10_in (Int32.toInt64 x2) (0 : Int64) (3 : Int64) m)) = 0 then some (((-1 : Int32), m)) else (if (Int32.toInt (d_X10_in (Int32.toInt64 x3) (0 : Int64) (2 : Int64) m)) = 0 then some (((-1 : Int32), m)) else (if ¬ (Int32.toInt (d_X10_in (Int32.toInt64 x5) (0 : Int64) (30 : Int64) m)) = 0 then ((d_X10_layRight x0 m).bind (fun q1 => (if ¬ (Int32.toInt q1.1) = 0 then ((d_X10_layAims x0 x1 q1.2).bind (fun q2 => (if (Int32.toInt (lg_cmp ((q2.2.1 x0 47) &&& (q2.2.1 x0 48)) (0 : Int64))) = 0 then (if (Int32.toInt (q2.1 (x0 + 35) (Int32.toNatClampNeg x2))) = (Int32.toInt x3) then (d_X10_judge_l114 x0 x2 x4 x5 (0 : Int64) (0 : Int32) q2) else (if ¬ (Int32.toInt (q2.1 (x0 + 35) (Int32.toNatClampNeg x2))) = (-4) then some (((-13 : Int32), q2)) else some (((-11 : Int32), q2)))) else some (((-2 : Int32), q2))))) else some (((-2 : Int32), q1.2))))) else some (((-1 : Int32), m))))))
set_option maxHeartbeats 8000000 in
theorem k_X10_judge {u : Nat} {N : Nat} {Φ : (Option (Int32 × dc_M)) → Option Value → dc_M → Prop} (x0 : Nat) (x1 : Int32) (x2 : Int32) (x3 : Int32) (x4 : Int32) (x5 : Int32) (m : dc_M) (kR : ∀ (v : Int32) (m : dc_M), Φ (some ((v, m))) (some (.int v)) m)  {lv : ab_L} (f0 : ab_lk lv 0 = some (.ref x0)) (f1 : ab_lk lv 1 = some (.int x1)) (f2 : ab_lk lv 2 = some (.int x2)) (f3 : ab_lk lv 3 = some (.int x3)) (f4 : ab_lk lv 4 = some (.int x4)) (f5 : ab_lk lv 5 = some (.int x5)) : dc_pv u N ab_M_X10_judge 0 lv [] m (Φ (d_X10_judge x0 x1 x2 x3 x4 x5 m)) := by
  refine dc_pv.mono (dc_ok (C := C_X10_judge) (S := S_X10_judge) CO_X10_judge 400 0 [(0, .ref x0), (1, .int x1), (2, .int x2), (3, .int x3), (4, .int x4), (5, .int x5)] lv [] m (dc_sub_cons f0 (dc_sub_cons f1 (dc_sub_cons f2 (dc_sub_cons f3 (dc_sub_cons f4 (dc_sub_cons f5 (dc_sub_nil))))))) ?_) (Nat.le_succ N)
  unfold d_X10_judge
  refine dg_s (pc' := 1) [.ref x0] rfl (fun _ => rfl) rfl ?_
  refine dg_s (pc' := 2) [.int x1, .ref x0] rfl (fun _ => rfl) rfl ?_
  refine dg_s (pc' := 5) [.int (d_X10_isOwn x0 x1 m)] rfl (fun _ => rfl) rfl ?_
  refine dw_if (fun t => Φ t) ((Int32.toInt (d_X10_isOwn x0 x1 m)) = 0) [] 45 8 rfl (fun _ => rfl) (fun c0 => ?_) (fun c0 => ?_)
  · refine dw_g rfl ?_
    refine dg_s (pc' := 46) [.int (-1 : Int32)] rfl (fun _ => rfl) rfl ?_
    exact dw_r (some (.inl (some (.int (-1 : Int32)), m))) rfl (fun _ => rfl) (kR _ _)
  · refine dw_g rfl ?_
    refine dg_s (pc' := 9) [.int x2] rfl (fun _ => rfl) rfl ?_
    refine dg_s (pc' := 10) [.long (Int32.toInt64 x2)] rfl (fun _ => rfl) rfl ?_
    refine dg_s (pc' := 11) [.long (0 : Int64), .long (Int32.toInt64 x2)] rfl (fun _ => rfl) rfl ?_
    refine dg_s (pc' := 14) [.long (3 : Int64), .long (0 : Int64), .long (Int32.toInt64 x2)] rfl (fun _ => rfl) rfl ?_
    refine dg_s (pc' := 17) [.int (d_X10_in (Int32.toInt64 x2) (0 : Int64) (3 : Int64) m)] rfl (fun _ => rfl) rfl ?_
    refine dw_if (fun t => Φ t) ((Int32.toInt (d_X10_in (Int32.toInt64 x2) (0 : Int64) (3 : Int64) m)) = 0) [] 45 20 rfl (fun _ => rfl) (fun c1 => ?_) (fun c1 => ?_)
    · refine dw_g rfl ?_
      refine dg_s (pc' := 46) [.int (-1 : Int32)] rfl (fun _ => rfl) rfl ?_
      exact dw_r (some (.inl (some (.int (-1 : Int32)), m))) rfl (fun _ => rfl) (kR _ _)
    · refine dw_g rfl ?_
      refine dg_s (pc' := 21) [.int x3] rfl (fun _ => rfl) rfl ?_
      refine dg_s (pc' := 22) [.long (Int32.toInt64 x3)] rfl (fun _ => rfl) rfl ?_
      refine dg_s (pc' := 23) [.long (0 : Int64), .long (Int32.toInt64 x3)] rfl (fun _ => rfl) rfl ?_
      refine dg_s (pc' := 26) [.long (2 : Int64), .long (0 : Int64), .long (Int32.toInt64 x3)] rfl (fun _ => rfl) rfl ?_
      refine dg_s (pc' := 29) [.int (d_X10_in (Int32.toInt64 x3) (0 : Int64) (2 : Int64) m)] rfl (fun _ => rfl) rfl ?_
      refine dw_if (fun t => Φ t) ((Int32.toInt (d_X10_in (Int32.toInt64 x3) (0 : Int64) (2 : Int64) m)) = 0) [] 45 32 rfl (fun _ => rfl) (fun c2 => ?_) (fun c2 => ?_)
      · refine dw_g rfl ?_
        refine dg_s (pc' := 46) [.int (-1 : Int32)] rfl (fun _ => rfl) rfl ?_
        exact dw_r (some (.inl (some (.int (-1 : Int32)), m))) rfl (fun _ => rfl) (kR _ _)
      · refine dw_g rfl ?_
        refine dg_s (pc' := 34) [.int x5] rfl (fun _ => rfl) rfl ?_
        refine dg_s (pc' := 35) [.long (Int32.toInt64 x5)] rfl (fun _ => rfl) rfl ?_
        refine dg_s (pc' := 36) [.long (0 : Int64), .long (Int32.toInt64 x5)] rfl (fun _ => rfl) rfl ?_
        refine dg_s (pc' := 39) [.long (30 : Int64), .long (0 : Int64), .long (Int32.toInt64 x5)] rfl (fun _ => rfl) rfl ?_
        refine dg_s (pc' := 42) [.int (d_X10_in (Int32.toInt64 x5) (0 : Int64) (30 : Int64) m)] rfl (fun _ => rfl) rfl ?_
        refine dw_if (fun t => Φ t) (¬ (Int32.toInt (d_X10_in (Int32.toInt64 x5) (0 : Int64) (30 : Int64) m)) = 0) [] 47 45 rfl (fun _ => rfl) (fun c3 => ?_) (fun c3 => ?_)
        · refine dw_g rfl ?_
          refine dg_s (pc' := 48) [.ref x0] rfl (fun _ => rfl) rfl ?_
          refine dw_b (fun t => Φ t) (pc' := 51) (fun q1 => [.int q1.1]) (fun q1 => q1.2) rfl (fun _ => rfl) (fun q1 => ?_)
          refine dw_g rfl ?_
          refine dw_if (fun t => Φ t) (¬ (Int32.toInt q1.1) = 0) [] 57 54 rfl (fun _ => rfl) (fun c4 => ?_) (fun c4 => ?_)
          · refine dw_g rfl ?_
            refine dg_s (pc' := 58) [.ref x0] rfl (fun _ => rfl) rfl ?_
            refine dg_s (pc' := 59) [.int x1, .ref x0] rfl (fun _ => rfl) rfl ?_
            refine dw_b (fun t => Φ t) (pc' := 62) (fun q2 => []) (fun q2 => q2) rfl (fun _ => rfl) (fun q2 => ?_)
            refine dw_g rfl ?_
            refine dg_s (pc' := 63) [.ref x0] rfl (fun _ => rfl) rfl ?_
            refine dg_s (pc' := 66) [.long (q2.2.1 x0 47)] rfl (fun _ => rfl) rfl ?_
            refine dg_s (pc' := 67) [.ref x0, .long (q2.2.1 x0 47)] rfl (fun _ => rfl) rfl ?_
            refine dg_s (pc' := 70) [.long (q2.2.1 x0 48), .long (q2.2.1 x0 47)] rfl (fun _ => rfl) rfl ?_
            refine dg_s (pc' := 71) [.long ((q2.2.1 x0 47) &&& (q2.2.1 x0 48))] rfl (fun _ => rfl) rfl ?_
            refine dg_s (pc' := 72) [.long (0 : Int64), .long ((q2.2.1 x0 47) &&& (q2.2.1 x0 48))] rfl (fun _ => rfl) rfl ?_
            refine dg_s (pc' := 73) [.int (lg_cmp ((q2.2.1 x0 47) &&& (q2.2.1 x0 48)) (0 : Int64))] rfl (fun _ => rfl) rfl ?_
            refine dw_if (fun t => Φ t) ((Int32.toInt (lg_cmp ((q2.2.1 x0 47) &&& (q2.2.1 x0 48)) (0 : Int64))) = 0) [] 79 76 rfl (fun _ => rfl) (fun c5 => ?_) (fun c5 => ?_)
            · refine dw_g rfl ?_
              refine dg_s (pc' := 80) [.ref x0] rfl (fun _ => rfl) rfl ?_
              refine dg_s (pc' := 83) [.ref (x0 + 35)] rfl (fun _ => rfl) rfl ?_
              refine dg_s (pc' := 84) [.int x2, .ref (x0 + 35)] rfl (fun _ => rfl) rfl ?_
              refine dg_s (pc' := 85) [.int (q2.1 (x0 + 35) (Int32.toNatClampNeg x2))] rfl (fun _ => rfl) rfl ?_
              refine dg_s (pc' := 86) [.int x3, .int (q2.1 (x0 + 35) (Int32.toNatClampNeg x2))] rfl (fun _ => rfl) rfl ?_
              refine dw_if (fun t => Φ t) ((Int32.toInt (q2.1 (x0 + 35) (Int32.toNatClampNeg x2))) = (Int32.toInt x3)) [] 108 89 rfl (fun _ => rfl) (fun c6 => ?_) (fun c6 => ?_)
              · refine dw_g rfl ?_
                refine dg_s (pc' := 109) [.long (0 : Int64)] rfl (fun _ => rfl) rfl ?_
                refine dg_L (pc' := 111) [(6, .long (0 : Int64)), (0, .ref x0), (1, .int x1), (2, .int x2), (3, .int x3), (4, .int x4), (5, .int x5)] [] rfl (fun _ => rfl) rfl ?_
                refine dg_s (pc' := 112) [.int (0 : Int32)] rfl (fun _ => rfl) rfl ?_
                refine dw_L (pc' := 114) [(8, .int (0 : Int32)), (6, .long (0 : Int64)), (0, .ref x0), (1, .int x1), (2, .int x2), (3, .int x3), (4, .int x4), (5, .int x5)] [] rfl (fun _ => rfl) ?_
                exact dw_j rfl (fun lv1 hv => k_X10_judge_l114 (Φ := (fun t => Φ t)) x0 x2 x4 x5 q2 (fun _a _b => kR _a _b) N  (0 : Int64) (0 : Int32) lv1 (hv.1 _ rfl) (hv.2.1 _ rfl) (hv.2.2.1 _ rfl) (hv.2.2.2.1 _ rfl) (hv.2.2.2.2.1 _ rfl) (hv.2.2.2.2.2.1 _ rfl))
              · refine dw_g rfl ?_
                refine dg_s (pc' := 90) [.ref x0] rfl (fun _ => rfl) rfl ?_
                refine dg_s (pc' := 93) [.ref (x0 + 35)] rfl (fun _ => rfl) rfl ?_
                refine dg_s (pc' := 94) [.int x2, .ref (x0 + 35)] rfl (fun _ => rfl) rfl ?_
                refine dg_s (pc' := 95) [.int (q2.1 (x0 + 35) (Int32.toNatClampNeg x2))] rfl (fun _ => rfl) rfl ?_
                refine dg_s (pc' := 97) [.int (-4 : Int32), .int (q2.1 (x0 + 35) (Int32.toNatClampNeg x2))] rfl (fun _ => rfl) rfl ?_
                refine dw_if (fun t => Φ t) (¬ (Int32.toInt (q2.1 (x0 + 35) (Int32.toNatClampNeg x2))) = (-4)) [] 105 100 rfl (fun _ => rfl) (fun c7 => ?_) (fun c7 => ?_)
                · refine dw_g rfl ?_
                  refine dg_s (pc' := 107) [.int (-13 : Int32)] rfl (fun _ => rfl) rfl ?_
                  exact dw_r (some (.inl (some (.int (-13 : Int32)), q2))) rfl (fun _ => rfl) (kR _ _)
                · refine dw_g rfl ?_
                  refine dg_s (pc' := 102) [.int (-11 : Int32)] rfl (fun _ => rfl) rfl ?_
                  refine dg_s (pc' := 107) [.int (-11 : Int32)] rfl (fun _ => rfl) rfl ?_
                  exact dw_r (some (.inl (some (.int (-11 : Int32)), q2))) rfl (fun _ => rfl) (kR _ _)
            · refine dw_g rfl ?_
              refine dg_s (pc' := 78) [.int (-2 : Int32)] rfl (fun _ => rfl) rfl ?_
              exact dw_r (some (.inl (some (.int (-2 : Int32)), q2))) rfl (fun _ => rfl) (kR _ _)
          · refine dw_g rfl ?_
            refine dg_s (pc' := 56) [.int (-2 : Int32)] rfl (fun _ => rfl) rfl ?_
            exact dw_r (some (.inl (some (.int (-2 : Int32)), q1.2))) rfl (fun _ => rfl) (kR _ _)
        · refine dw_g rfl ?_
          refine dg_s (pc' := 46) [.int (-1 : Int32)] rfl (fun _ => rfl) rfl ?_
          exact dw_r (some (.inl (some (.int (-1 : Int32)), m))) rfl (fun _ => rfl) (kR _ _)
noncomputable def H_X10_judge : dc_H := fun As m k => match As with
  | [.ref x0, .int x1, .int x2, .int x3, .int x4, .int x5] => (d_X10_judge x0 x1 x2 x3 x4 x5 m).bind (fun q => k (some (.int q.1)) q.2)
  | _ => dc_kz
theorem H_X10_judge_ok {u : Nat} : dc_cok u 201 H_X10_judge := fun M' hG N As m k P hz hP => by
  obtain rfl : ab_M_X10_judge = M' := Option.some.inj hG
  unfold H_X10_judge at hP
  split at hP
  · rename_i x0 x1 x2 x3 x4 x5
    exact dc_pv.imp (k_X10_judge (Φ := fun (t : Option (Int32 × dc_M)) r m' => P (t.bind (fun q => k (some (.int q.1)) q.2)) → P (k r m')) x0 x1 x2 x3 x4 x5 m (fun _ _ h => h) rfl rfl rfl rfl rfl rfl) (fun r m' h => h hP)
  · exact absurd hP hz
noncomputable def C_X10_cost : List (Nat × dc_H) := [(188, H_X10_layAims), (197, H_X10_layMakes), (183, H_X10_layQuarrels), (175, H_X10_layRight)]
theorem CO_X10_cost {u : Nat} : dc_CO u C_X10_cost := dc_CO_cons H_X10_layAims_ok (dc_CO_cons H_X10_layMakes_ok (dc_CO_cons H_X10_layQuarrels_ok (dc_CO_cons H_X10_layRight_ok (dc_CO_nil))))
def S_X10_cost : List (Nat × List Nat) := [(28, [0, 1, 2])]
noncomputable def d_X10_cost_l28b (x0 : Nat) (x1 : Int32) (x2 : Int32) (m : dc_M) : Option ((Int32 × Int32 × dc_M) ⊕ (Int32 × dc_M)) :=
  (if (Int32.toInt (m.1 x0 0)) ≤ (Int32.toInt x2) then some (Sum.inr ((x1, m))) else (if (Int32.toInt (m.1 (x0 + 2) (Int32.toNatClampNeg x2))) ≤ 0 then some (Sum.inl (x1, (x2 + (1 : Int32)), m)) else ((d_X10_layAims x0 x2 m).bind (fun q1 => ((d_X10_layMakes x0 q1).bind (fun q2 => some (Sum.inl ((x1 + (q2.1 x0 58)), (x2 + (1 : Int32)), q2))))))))
noncomputable def d_X10_cost_l28s (x0 : Nat) : (Int32 × Int32 × dc_M) → Option ((Int32 × Int32 × dc_M) ⊕ (Int32 × dc_M)) := fun s => d_X10_cost_l28b x0 s.1 s.2.1 s.2.2
noncomputable def d_X10_cost_l28 (x0 : Nat) (x1 : Int32) (x2 : Int32) (m : dc_M) : Option (Int32 × dc_M) := dc_lp (d_X10_cost_l28s x0) (x1, x2, m)
set_option maxHeartbeats 8000000 in
theorem k_X10_cost_l28 {u : Nat} {Φ : (Option (Int32 × dc_M)) → Option Value → dc_M → Prop} (x0 : Nat) (kR : ∀ (v : Int32) (m : dc_M), Φ (some ((v, m))) (some (.int v)) m) : ∀ (N : Nat), ∀ (x1 : Int32) (x2 : Int32) (m : dc_M) (lv : ab_L), ab_lk lv 0 = some (.ref x0) → ab_lk lv 1 = some (.int x1) → ab_lk lv 2 = some (.int x2) → dc_pv u N ab_M_X10_cost 28 lv [] m (Φ (d_X10_cost_l28 x0 x1 x2 m)) := by
  intro N
  induction N with
  | zero => intros; exact dc_pv_zero
  | succ N ih =>
    intro x1 x2 m lv f0 f1 f2
    refine dc_ok (C := C_X10_cost) (S := S_X10_cost) CO_X10_cost 400 28 [(0, .ref x0), (1, .int x1), (2, .int x2)] lv [] m (dc_sub_cons f0 (dc_sub_cons f1 (dc_sub_cons f2 (dc_sub_nil)))) ?_
    unfold d_X10_cost_l28
    rw [dc_lp_eq]
    show (fun t x => dc_lf u N ab_M_X10_cost (Φ (Option.bind t (dc_bk (d_X10_cost_l28s x0)))) x) (d_X10_cost_l28b x0 x1 x2 m) _
    dsimp only
    unfold d_X10_cost_l28b
    refine dg_s (pc' := 29) [.int x2] rfl (fun _ => rfl) rfl ?_
    refine dg_s (pc' := 30) [.ref x0, .int x2] rfl (fun _ => rfl) rfl ?_
    refine dg_s (pc' := 33) [.int (m.1 x0 0), .int x2] rfl (fun _ => rfl) rfl ?_
    refine dw_if (fun t => Φ (Option.bind t (dc_bk (d_X10_cost_l28s x0)))) ((Int32.toInt (m.1 x0 0)) ≤ (Int32.toInt x2)) [] 67 36 rfl (fun _ => rfl) (fun c0 => ?_) (fun c0 => ?_)
    · refine dw_g rfl ?_
      refine dg_s (pc' := 68) [.int x1] rfl (fun _ => rfl) rfl ?_
      exact dw_r (some (.inl (some (.int x1), m))) rfl (fun _ => rfl) (kR _ _)
    · refine dw_g rfl ?_
      refine dg_s (pc' := 37) [.ref x0] rfl (fun _ => rfl) rfl ?_
      refine dg_s (pc' := 40) [.ref (x0 + 2)] rfl (fun _ => rfl) rfl ?_
      refine dg_s (pc' := 41) [.int x2, .ref (x0 + 2)] rfl (fun _ => rfl) rfl ?_
      refine dg_s (pc' := 42) [.int (m.1 (x0 + 2) (Int32.toNatClampNeg x2))] rfl (fun _ => rfl) rfl ?_
      refine dw_if (fun t => Φ (Option.bind t (dc_bk (d_X10_cost_l28s x0)))) ((Int32.toInt (m.1 (x0 + 2) (Int32.toNatClampNeg x2))) ≤ 0) [] 61 45 rfl (fun _ => rfl) (fun c1 => ?_) (fun c1 => ?_)
      · refine dw_g rfl ?_
        refine dg_L (pc' := 64) [(2, .int (x2 + (1 : Int32))), (0, .ref x0), (1, .int x1)] [] rfl (fun _ => rfl) rfl ?_
        refine dw_s (pc' := 28) [] rfl (fun _ => rfl) ?_
        exact dw_j rfl (fun lv1 hv => ih x1 (x2 + (1 : Int32)) m lv1 (hv.1 _ rfl) (hv.2.1 _ rfl) (hv.2.2.1 _ rfl))
      · refine dw_g rfl ?_
        refine dg_s (pc' := 46) [.ref x0] rfl (fun _ => rfl) rfl ?_
        refine dg_s (pc' := 47) [.int x2, .ref x0] rfl (fun _ => rfl) rfl ?_
        refine dw_b (fun t => Φ (Option.bind t (dc_bk (d_X10_cost_l28s x0)))) (pc' := 50) (fun q1 => []) (fun q1 => q1) rfl (fun _ => rfl) (fun q1 => ?_)
        refine dw_g rfl ?_
        refine dg_s (pc' := 51) [.ref x0] rfl (fun _ => rfl) rfl ?_
        refine dw_b (fun t => Φ (Option.bind t (dc_bk (d_X10_cost_l28s x0)))) (pc' := 54) (fun q2 => []) (fun q2 => q2) rfl (fun _ => rfl) (fun q2 => ?_)
        refine dw_g rfl ?_
        refine dg_s (pc' := 55) [.int x1] rfl (fun _ => rfl) rfl ?_
        refine dg_s (pc' := 56) [.ref x0, .int x1] rfl (fun _ => rfl) rfl ?_
        refine dg_s (pc' := 59) [.int (q2.1 x0 58), .int x1] rfl (fun _ => rfl) rfl ?_
        refine dg_s (pc' := 60) [.int (x1 + (q2.1 x0 58))] rfl (fun _ => rfl) rfl ?_
        refine dg_L (pc' := 61) [(1, .int (x1 + (q2.1 x0 58))), (0, .ref x0), (2, .int x2)] [] rfl (fun _ => rfl) rfl ?_
        refine dg_L (pc' := 64) [(2, .int (x2 + (1 : Int32))), (1, .int (x1 + (q2.1 x0 58))), (0, .ref x0)] [] rfl (fun _ => rfl) rfl ?_
        refine dw_s (pc' := 28) [] rfl (fun _ => rfl) ?_
        exact dw_j rfl (fun lv1 hv => ih (x1 + (q2.1 x0 58)) (x2 + (1 : Int32)) q2 lv1 (hv.1 _ rfl) (hv.2.1 _ rfl) (hv.2.2.1 _ rfl))
noncomputable def d_X10_cost (x0 : Nat) (m : dc_M) : Option (Int32 × dc_M) :=
  ((d_X10_layRight x0 m).bind (fun q1 => (if ¬ (Int32.toInt q1.1) = 0 then ((d_X10_layQuarrels x0 q1.2).bind (fun q2 => (if (Int32.toInt (q2.1 x0 40)) ≤ 0 then (d_X10_cost_l28 x0 (0 : Int32) (0 : Int32) q2) else some (((-2 : Int32), q2))))) else some (((-2 : Int32), q1.2)))))
set_option maxHeartbeats 8000000 in
theorem k_X10_cost {u : Nat} {N : Nat} {Φ : (Option (Int32 × dc_M)) → Option Value → dc_M → Prop} (x0 : Nat) (m : dc_M) (kR : ∀ (v : Int32) (m : dc_M), Φ (some ((v, m))) (some (.int v)) m)  {lv : ab_L} (f0 : ab_lk lv 0 = some (.ref x0)) : dc_pv u N ab_M_X10_cost 0 lv [] m (Φ (d_X10_cost x0 m)) := by
  refine dc_pv.mono (dc_ok (C := C_X10_cost) (S := S_X10_cost) CO_X10_cost 400 0 [(0, .ref x0)] lv [] m (dc_sub_cons f0 (dc_sub_nil)) ?_) (Nat.le_succ N)
  unfold d_X10_cost
  refine dg_s (pc' := 1) [.ref x0] rfl (fun _ => rfl) rfl ?_
  refine dw_b (fun t => Φ t) (pc' := 4) (fun q1 => [.int q1.1]) (fun q1 => q1.2) rfl (fun _ => rfl) (fun q1 => ?_)
  refine dw_g rfl ?_
  refine dw_if (fun t => Φ t) (¬ (Int32.toInt q1.1) = 0) [] 10 7 rfl (fun _ => rfl) (fun c0 => ?_) (fun c0 => ?_)
  · refine dw_g rfl ?_
    refine dg_s (pc' := 11) [.ref x0] rfl (fun _ => rfl) rfl ?_
    refine dw_b (fun t => Φ t) (pc' := 14) (fun q2 => []) (fun q2 => q2) rfl (fun _ => rfl) (fun q2 => ?_)
    refine dw_g rfl ?_
    refine dg_s (pc' := 15) [.ref x0] rfl (fun _ => rfl) rfl ?_
    refine dg_s (pc' := 18) [.int (q2.1 x0 40)] rfl (fun _ => rfl) rfl ?_
    refine dw_if (fun t => Φ t) ((Int32.toInt (q2.1 x0 40)) ≤ 0) [] 24 21 rfl (fun _ => rfl) (fun c1 => ?_) (fun c1 => ?_)
    · refine dw_g rfl ?_
      refine dg_s (pc' := 25) [.int (0 : Int32)] rfl (fun _ => rfl) rfl ?_
      refine dg_L (pc' := 26) [(1, .int (0 : Int32)), (0, .ref x0)] [] rfl (fun _ => rfl) rfl ?_
      refine dg_s (pc' := 27) [.int (0 : Int32)] rfl (fun _ => rfl) rfl ?_
      refine dw_L (pc' := 28) [(2, .int (0 : Int32)), (1, .int (0 : Int32)), (0, .ref x0)] [] rfl (fun _ => rfl) ?_
      exact dw_j rfl (fun lv1 hv => k_X10_cost_l28 (Φ := (fun t => Φ t)) x0 (fun _a _b => kR _a _b) N  (0 : Int32) (0 : Int32) q2 lv1 (hv.1 _ rfl) (hv.2.1 _ rfl) (hv.2.2.1 _ rfl))
    · refine dw_g rfl ?_
      refine dg_s (pc' := 23) [.int (-2 : Int32)] rfl (fun _ => rfl) rfl ?_
      exact dw_r (some (.inl (some (.int (-2 : Int32)), q2))) rfl (fun _ => rfl) (kR _ _)
  · refine dw_g rfl ?_
    refine dg_s (pc' := 9) [.int (-2 : Int32)] rfl (fun _ => rfl) rfl ?_
    exact dw_r (some (.inl (some (.int (-2 : Int32)), q1.2))) rfl (fun _ => rfl) (kR _ _)
noncomputable def H_X10_cost : dc_H := fun As m k => match As with
  | [.ref x0] => (d_X10_cost x0 m).bind (fun q => k (some (.int q.1)) q.2)
  | _ => dc_kz
theorem H_X10_cost_ok {u : Nat} : dc_cok u 202 H_X10_cost := fun M' hG N As m k P hz hP => by
  obtain rfl : ab_M_X10_cost = M' := Option.some.inj hG
  unfold H_X10_cost at hP
  split at hP
  · rename_i x0
    exact dc_pv.imp (k_X10_cost (Φ := fun (t : Option (Int32 × dc_M)) r m' => P (t.bind (fun q => k (some (.int q.1)) q.2)) → P (k r m')) x0 m (fun _ _ h => h) rfl) (fun r m' h => h hP)
  · exact absurd hP hz
def C_X10_isFull : List (Nat × dc_H) := []
theorem CO_X10_isFull {u : Nat} : dc_CO u C_X10_isFull := dc_CO_nil
def S_X10_isFull : List (Nat × List Nat) := []
def d_X10_isFull (x0 : Nat) (m : dc_M) : Int32 :=
  (if (Int32.toInt (m.1 x0 0)) = 6 then (1 : Int32) else (if 16 < (Int32.toInt ((m.1 x0 3) + (2 : Int32))) then (1 : Int32) else (if (Int32.toInt ((m.1 x0 10) + (2 : Int32))) ≤ 20 then (0 : Int32) else (1 : Int32))))
set_option maxHeartbeats 8000000 in
theorem k_X10_isFull {u : Nat} {N : Nat} {Φ : Int32 → Option Value → dc_M → Prop} (x0 : Nat) (m : dc_M) (kR : ∀ (v : Int32), Φ (v) (some (.int v)) m)  {lv : ab_L} (f0 : ab_lk lv 0 = some (.ref x0)) : dc_pv u N ab_M_X10_isFull 0 lv [] m (Φ (d_X10_isFull x0 m)) := by
  refine dc_pv.mono (dc_ok (C := C_X10_isFull) (S := S_X10_isFull) CO_X10_isFull 400 0 [(0, .ref x0)] lv [] m (dc_sub_cons f0 (dc_sub_nil)) ?_) (Nat.le_succ N)
  unfold d_X10_isFull
  refine dg_s (pc' := 1) [.ref x0] rfl (fun _ => rfl) rfl ?_
  refine dg_s (pc' := 4) [.int (m.1 x0 0)] rfl (fun _ => rfl) rfl ?_
  refine dg_s (pc' := 6) [.int (6 : Int32), .int (m.1 x0 0)] rfl (fun _ => rfl) rfl ?_
  refine dw_if (fun t => Φ t) ((Int32.toInt (m.1 x0 0)) = 6) [] 31 9 rfl (fun _ => rfl) (fun c0 => ?_) (fun c0 => ?_)
  · refine dw_g rfl ?_
    refine dg_s (pc' := 32) [.int (1 : Int32)] rfl (fun _ => rfl) rfl ?_
    refine dg_s (pc' := 36) [.int (1 : Int32)] rfl (fun _ => rfl) rfl ?_
    exact dw_r (some (.inl (some (.int (1 : Int32)), m))) rfl (fun _ => rfl) (kR _)
  · refine dw_g rfl ?_
    refine dg_s (pc' := 10) [.ref x0] rfl (fun _ => rfl) rfl ?_
    refine dg_s (pc' := 13) [.int (m.1 x0 3)] rfl (fun _ => rfl) rfl ?_
    refine dg_s (pc' := 14) [.int (2 : Int32), .int (m.1 x0 3)] rfl (fun _ => rfl) rfl ?_
    refine dg_s (pc' := 15) [.int ((m.1 x0 3) + (2 : Int32))] rfl (fun _ => rfl) rfl ?_
    refine dg_s (pc' := 17) [.int (16 : Int32), .int ((m.1 x0 3) + (2 : Int32))] rfl (fun _ => rfl) rfl ?_
    refine dw_if (fun t => Φ t) (16 < (Int32.toInt ((m.1 x0 3) + (2 : Int32)))) [] 31 20 rfl (fun _ => rfl) (fun c1 => ?_) (fun c1 => ?_)
    · refine dw_g rfl ?_
      refine dg_s (pc' := 32) [.int (1 : Int32)] rfl (fun _ => rfl) rfl ?_
      refine dg_s (pc' := 36) [.int (1 : Int32)] rfl (fun _ => rfl) rfl ?_
      exact dw_r (some (.inl (some (.int (1 : Int32)), m))) rfl (fun _ => rfl) (kR _)
    · refine dw_g rfl ?_
      refine dg_s (pc' := 21) [.ref x0] rfl (fun _ => rfl) rfl ?_
      refine dg_s (pc' := 24) [.int (m.1 x0 10)] rfl (fun _ => rfl) rfl ?_
      refine dg_s (pc' := 25) [.int (2 : Int32), .int (m.1 x0 10)] rfl (fun _ => rfl) rfl ?_
      refine dg_s (pc' := 26) [.int ((m.1 x0 10) + (2 : Int32))] rfl (fun _ => rfl) rfl ?_
      refine dg_s (pc' := 28) [.int (20 : Int32), .int ((m.1 x0 10) + (2 : Int32))] rfl (fun _ => rfl) rfl ?_
      refine dw_if (fun t => Φ t) ((Int32.toInt ((m.1 x0 10) + (2 : Int32))) ≤ 20) [] 35 31 rfl (fun _ => rfl) (fun c2 => ?_) (fun c2 => ?_)
      · refine dw_g rfl ?_
        refine dg_s (pc' := 36) [.int (0 : Int32)] rfl (fun _ => rfl) rfl ?_
        exact dw_r (some (.inl (some (.int (0 : Int32)), m))) rfl (fun _ => rfl) (kR _)
      · refine dw_g rfl ?_
        refine dg_s (pc' := 32) [.int (1 : Int32)] rfl (fun _ => rfl) rfl ?_
        refine dg_s (pc' := 36) [.int (1 : Int32)] rfl (fun _ => rfl) rfl ?_
        exact dw_r (some (.inl (some (.int (1 : Int32)), m))) rfl (fun _ => rfl) (kR _)
def H_X10_isFull : dc_H := fun As m k => match As with
  | [.ref x0] => k (some (.int (d_X10_isFull x0 m))) m
  | _ => dc_kz
theorem H_X10_isFull_ok {u : Nat} : dc_cok u 203 H_X10_isFull := fun M' hG N As m k P hz hP => by
  obtain rfl : ab_M_X10_isFull = M' := Option.some.inj hG
  unfold H_X10_isFull at hP
  split at hP
  · rename_i x0
    exact dc_pv.imp (k_X10_isFull (Φ := fun (t : Int32) r m' => P (k (some (.int t)) m) → P (k r m')) x0 m (fun _  h => h) rfl) (fun r m' h => h hP)
  · exact absurd hP hz
def C_X10_addEvent : List (Nat × dc_H) := []
theorem CO_X10_addEvent {u : Nat} : dc_CO u C_X10_addEvent := dc_CO_nil
def S_X10_addEvent : List (Nat × List Nat) := []
def d_X10_addEvent (x0 : Nat) (x1 : Int32) (x2 : Int32) (m : dc_M) : dc_M :=
  (dc_wi (dc_wi (dc_wi (dc_wi (dc_wi (dc_wi (dc_wi (dc_wi (dc_wi m (x0 + 3) (Int32.toNatClampNeg (m.1 x0 3)) (m.1 x0 0)) (x0 + 4) (Int32.toNatClampNeg (m.1 x0 3)) x2) (x0 + 5) (Int32.toNatClampNeg (m.1 x0 3)) (0 : Int32)) (x0 + 6) (Int32.toNatClampNeg (m.1 x0 3)) ((1 : Int32) <<< (((dc_wi (dc_wi (dc_wi m (x0 + 3) (Int32.toNatClampNeg (m.1 x0 3)) (m.1 x0 0)) (x0 + 4) (Int32.toNatClampNeg (m.1 x0 3)) x2) (x0 + 5) (Int32.toNatClampNeg (m.1 x0 3)) (0 : Int32)).1 x0 10) &&& 31))) (x0 + 7) (Int32.toNatClampNeg (m.1 x0 3)) ((dc_wi (dc_wi (dc_wi (dc_wi m (x0 + 3) (Int32.toNatClampNeg (m.1 x0 3)) (m.1 x0 0)) (x0 + 4) (Int32.toNatClampNeg (m.1 x0 3)) x2) (x0 + 5) (Int32.toNatClampNeg (m.1 x0 3)) (0 : Int32)) (x0 + 6) (Int32.toNatClampNeg (m.1 x0 3)) ((1 : Int32) <<< (((dc_wi (dc_wi (dc_wi m (x0 + 3) (Int32.toNatClampNeg (m.1 x0 3)) (m.1 x0 0)) (x0 + 4) (Int32.toNatClampNeg (m.1 x0 3)) x2) (x0 + 5) (Int32.toNatClampNeg (m.1 x0 3)) (0 : Int32)).1 x0 10) &&& 31))).1 (x0 + 7) (Int32.toNatClampNeg x1))) (x0 + 7) (Int32.toNatClampNeg x1) ((1 : Int32) <<< (((dc_wi (dc_wi (dc_wi (dc_wi (dc_wi m (x0 + 3) (Int32.toNatClampNeg (m.1 x0 3)) (m.1 x0 0)) (x0 + 4) (Int32.toNatClampNeg (m.1 x0 3)) x2) (x0 + 5) (Int32.toNatClampNeg (m.1 x0 3)) (0 : Int32)) (x0 + 6) (Int32.toNatClampNeg (m.1 x0 3)) ((1 : Int32) <<< (((dc_wi (dc_wi (dc_wi m (x0 + 3) (Int32.toNatClampNeg (m.1 x0 3)) (m.1 x0 0)) (x0 + 4) (Int32.toNatClampNeg (m.1 x0 3)) x2) (x0 + 5) (Int32.toNatClampNeg (m.1 x0 3)) (0 : Int32)).1 x0 10) &&& 31))) (x0 + 7) (Int32.toNatClampNeg (m.1 x0 3)) ((dc_wi (dc_wi (dc_wi (dc_wi m (x0 + 3) (Int32.toNatClampNeg (m.1 x0 3)) (m.1 x0 0)) (x0 + 4) (Int32.toNatClampNeg (m.1 x0 3)) x2) (x0 + 5) (Int32.toNatClampNeg (m.1 x0 3)) (0 : Int32)) (x0 + 6) (Int32.toNatClampNeg (m.1 x0 3)) ((1 : Int32) <<< (((dc_wi (dc_wi (dc_wi m (x0 + 3) (Int32.toNatClampNeg (m.1 x0 3)) (m.1 x0 0)) (x0 + 4) (Int32.toNatClampNeg (m.1 x0 3)) x2) (x0 + 5) (Int32.toNatClampNeg (m.1 x0 3)) (0 : Int32)).1 x0 10) &&& 31))).1 (x0 + 7) (Int32.toNatClampNeg x1))).1 x0 10) &&& 31))) (x0 + 8) (Int32.toNatClampNeg (m.1 x0 3)) (1 : Int32)) x0 10 (((dc_wi (dc_wi (dc_wi (dc_wi (dc_wi (dc_wi (dc_wi m (x0 + 3) (Int32.toNatClampNeg (m.1 x0 3)) (m.1 x0 0)) (x0 + 4) (Int32.toNatClampNeg (m.1 x0 3)) x2) (x0 + 5) (Int32.toNatClampNeg (m.1 x0 3)) (0 : Int32)) (x0 + 6) (Int32.toNatClampNeg (m.1 x0 3)) ((1 : Int32) <<< (((dc_wi (dc_wi (dc_wi m (x0 + 3) (Int32.toNatClampNeg (m.1 x0 3)) (m.1 x0 0)) (x0 + 4) (Int32.toNatClampNeg (m.1 x0 3)) x2) (x0 + 5) (Int32.toNatClampNeg (m.1 x0 3)) (0 : Int32)).1 x0 10) &&& 31))) (x0 + 7) (Int32.toNatClampNeg (m.1 x0 3)) ((dc_wi (dc_wi (dc_wi (dc_wi m (x0 + 3) (Int32.toNatClampNeg (m.1 x0 3)) (m.1 x0 0)) (x0 + 4) (Int32.toNatClampNeg (m.1 x0 3)) x2) (x0 + 5) (Int32.toNatClampNeg (m.1 x0 3)) (0 : Int32)) (x0 + 6) (Int32.toNatClampNeg (m.1 x0 3)) ((1 : Int32) <<< (((dc_wi (dc_wi (dc_wi m (x0 + 3) (Int32.toNatClampNeg (m.1 x0 3)) (m.1 x0 0)) (x0 + 4) (Int32.toNatClampNeg (m.1 x0 3)) x2) (x0 + 5) (Int32.toNatClampNeg (m.1 x0 3)) (0 : Int32)).1 x0 10) &&& 31))).1 (x0 + 7) (Int32.toNatClampNeg x1))) (x0 + 7) (Int32.toNatClampNeg x1) ((1 : Int32) <<< (((dc_wi (dc_wi (dc_wi (dc_wi (dc_wi m (x0 + 3) (Int32.toNatClampNeg (m.1 x0 3)) (m.1 x0 0)) (x0 + 4) (Int32.toNatClampNeg (m.1 x0 3)) x2) (x0 + 5) (Int32.toNatClampNeg (m.1 x0 3)) (0 : Int32)) (x0 + 6) (Int32.toNatClampNeg (m.1 x0 3)) ((1 : Int32) <<< (((dc_wi (dc_wi (dc_wi m (x0 + 3) (Int32.toNatClampNeg (m.1 x0 3)) (m.1 x0 0)) (x0 + 4) (Int32.toNatClampNeg (m.1 x0 3)) x2) (x0 + 5) (Int32.toNatClampNeg (m.1 x0 3)) (0 : Int32)).1 x0 10) &&& 31))) (x0 + 7) (Int32.toNatClampNeg (m.1 x0 3)) ((dc_wi (dc_wi (dc_wi (dc_wi m (x0 + 3) (Int32.toNatClampNeg (m.1 x0 3)) (m.1 x0 0)) (x0 + 4) (Int32.toNatClampNeg (m.1 x0 3)) x2) (x0 + 5) (Int32.toNatClampNeg (m.1 x0 3)) (0 : Int32)) (x0 + 6) (Int32.toNatClampNeg (m.1 x0 3)) ((1 : Int32) <<< (((dc_wi (dc_wi (dc_wi m (x0 + 3) (Int32.toNatClampNeg (m.1 x0 3)) (m.1 x0 0)) (x0 + 4) (Int32.toNatClampNeg (m.1 x0 3)) x2) (x0 + 5) (Int32.toNatClampNeg (m.1 x0 3)) (0 : Int32)).1 x0 10) &&& 31))).1 (x0 + 7) (Int32.toNatClampNeg x1))).1 x0 10) &&& 31))) (x0 + 8) (Int32.toNatClampNeg (m.1 x0 3)) (1 : Int32)).1 x0 10) + (1 : Int32))) x0 3 (((dc_wi (dc_wi (dc_wi (dc_wi (dc_wi (dc_wi (dc_wi (dc_wi m (x0 + 3) (Int32.toNatClampNeg (m.1 x0 3)) (m.1 x0 0)) (x0 + 4) (Int32.toNatClampNeg (m.1 x0 3)) x2) (x0 + 5) (Int32.toNatClampNeg (m.1 x0 3)) (0 : Int32)) (x0 + 6) (Int32.toNatClampNeg (m.1 x0 3)) ((1 : Int32) <<< (((dc_wi (dc_wi (dc_wi m (x0 + 3) (Int32.toNatClampNeg (m.1 x0 3)) (m.1 x0 0)) (x0 + 4) (Int32.toNatClampNeg (m.1 x0 3)) x2) (x0 + 5) (Int32.toNatClampNeg (m.1 x0 3)) (0 : Int32)).1 x0 10) &&& 31))) (x0 + 7) (Int32.toNatClampNeg (m.1 x0 3)) ((dc_wi (dc_wi (dc_wi (dc_wi m (x0 + 3) (Int32.toNatClampNeg (m.1 x0 3)) (m.1 x0 0)) (x0 + 4) (Int32.toNatClampNeg (m.1 x0 3)) x2) (x0 + 5) (Int32.toNatClampNeg (m.1 x0 3)) (0 : Int32)) (x0 + 6) (Int32.toNatClampNeg (m.1 x0 3)) ((1 : Int32) <<< (((dc_wi (dc_wi (dc_wi m (x0 + 3) (Int32.toNatClampNeg (m.1 x0 3)) (m.1 x0 0)) (x0 + 4) (Int32.toNatClampNeg (m.1 x0 3)) x2) (x0 + 5) (Int32.toNatClampNeg (m.1 x0 3)) (0 : Int32)).1 x0 10) &&& 31))).1 (x0 + 7) (Int32.toNatClampNeg x1))) (x0 + 7) (Int32.toNatClampNeg x1) ((1 : Int32) <<< (((dc_wi (dc_wi (dc_wi (dc_wi (dc_wi m (x0 + 3) (Int32.toNatClampNeg (m.1 x0 3)) (m.1 x0 0)) (x0 + 4) (Int32.toNatClampNeg (m.1 x0 3)) x2) (x0 + 5) (Int32.toNatClampNeg (m.1 x0 3)) (0 : Int32)) (x0 + 6) (Int32.toNatClampNeg (m.1 x0 3)) ((1 : Int32) <<< (((dc_wi (dc_wi (dc_wi m (x0 + 3) (Int32.toNatClampNeg (m.1 x0 3)) (m.1 x0 0)) (x0 + 4) (Int32.toNatClampNeg (m.1 x0 3)) x2) (x0 + 5) (Int32.toNatClampNeg (m.1 x0 3)) (0 : Int32)).1 x0 10) &&& 31))) (x0 + 7) (Int32.toNatClampNeg (m.1 x0 3)) ((dc_wi (dc_wi (dc_wi (dc_wi m (x0 + 3) (Int32.toNatClampNeg (m.1 x0 3)) (m.1 x0 0)) (x0 + 4) (Int32.toNatClampNeg (m.1 x0 3)) x2) (x0 + 5) (Int32.toNatClampNeg (m.1 x0 3)) (0 : Int32)) (x0 + 6) (Int32.toNatClampNeg (m.1 x0 3)) ((1 : Int32) <<< (((dc_wi (dc_wi (dc_wi m (x0 + 3) (Int32.toNatClampNeg (m.1 x0 3)) (m.1 x0 0)) (x0 + 4) (Int32.toNatClampNeg (m.1 x0 3)) x2) (x0 + 5) (Int32.toNatClampNeg (m.1 x0 3)) (0 : Int32)).1 x0 10) &&& 31))).1 (x0 + 7) (Int32.toNatClampNeg x1))).1 x0 10) &&& 31))) (x0 + 8) (Int32.toNatClampNeg (m.1 x0 3)) (1 : Int32)) x0 10 (((dc_wi (dc_wi (dc_wi (dc_wi (dc_wi (dc_wi (dc_wi m (x0 + 3) (Int32.toNatClampNeg (m.1 x0 3)) (m.1 x0 0)) (x0 + 4) (Int32.toNatClampNeg (m.1 x0 3)) x2) (x0 + 5) (Int32.toNatClampNeg (m.1 x0 3)) (0 : Int32)) (x0 + 6) (Int32.toNatClampNeg (m.1 x0 3)) ((1 : Int32) <<< (((dc_wi (dc_wi (dc_wi m (x0 + 3) (Int32.toNatClampNeg (m.1 x0 3)) (m.1 x0 0)) (x0 + 4) (Int32.toNatClampNeg (m.1 x0 3)) x2) (x0 + 5) (Int32.toNatClampNeg (m.1 x0 3)) (0 : Int32)).1 x0 10) &&& 31))) (x0 + 7) (Int32.toNatClampNeg (m.1 x0 3)) ((dc_wi (dc_wi (dc_wi (dc_wi m (x0 + 3) (Int32.toNatClampNeg (m.1 x0 3)) (m.1 x0 0)) (x0 + 4) (Int32.toNatClampNeg (m.1 x0 3)) x2) (x0 + 5) (Int32.toNatClampNeg (m.1 x0 3)) (0 : Int32)) (x0 + 6) (Int32.toNatClampNeg (m.1 x0 3)) ((1 : Int32) <<< (((dc_wi (dc_wi (dc_wi m (x0 + 3) (Int32.toNatClampNeg (m.1 x0 3)) (m.1 x0 0)) (x0 + 4) (Int32.toNatClampNeg (m.1 x0 3)) x2) (x0 + 5) (Int32.toNatClampNeg (m.1 x0 3)) (0 : Int32)).1 x0 10) &&& 31))).1 (x0 + 7) (Int32.toNatClampNeg x1))) (x0 + 7) (Int32.toNatClampNeg x1) ((1 : Int32) <<< (((dc_wi (dc_wi (dc_wi (dc_wi (dc_wi m (x0 + 3) (Int32.toNatClampNeg (m.1 x0 3)) (m.1 x0 0)) (x0 + 4) (Int32.toNatClampNeg (m.1 x0 3)) x2) (x0 + 5) (Int32.toNatClampNeg (m.1 x0 3)) (0 : Int32)) (x0 + 6) (Int32.toNatClampNeg (m.1 x0 3)) ((1 : Int32) <<< (((dc_wi (dc_wi (dc_wi m (x0 + 3) (Int32.toNatClampNeg (m.1 x0 3)) (m.1 x0 0)) (x0 + 4) (Int32.toNatClampNeg (m.1 x0 3)) x2) (x0 + 5) (Int32.toNatClampNeg (m.1 x0 3)) (0 : Int32)).1 x0 10) &&& 31))) (x0 + 7) (Int32.toNatClampNeg (m.1 x0 3)) ((dc_wi (dc_wi (dc_wi (dc_wi m (x0 + 3) (Int32.toNatClampNeg (m.1 x0 3)) (m.1 x0 0)) (x0 + 4) (Int32.toNatClampNeg (m.1 x0 3)) x2) (x0 + 5) (Int32.toNatClampNeg (m.1 x0 3)) (0 : Int32)) (x0 + 6) (Int32.toNatClampNeg (m.1 x0 3)) ((1 : Int32) <<< (((dc_wi (dc_wi (dc_wi m (x0 + 3) (Int32.toNatClampNeg (m.1 x0 3)) (m.1 x0 0)) (x0 + 4) (Int32.toNatClampNeg (m.1 x0 3)) x2) (x0 + 5) (Int32.toNatClampNeg (m.1 x0 3)) (0 : Int32)).1 x0 10) &&& 31))).1 (x0 + 7) (Int32.toNatClampNeg x1))).1 x0 10) &&& 31))) (x0 + 8) (Int32.toNatClampNeg (m.1 x0 3)) (1 : Int32)).1 x0 10) + (1 : Int32))).1 x0 3) + (1 : Int32)))
set_option maxHeartbeats 8000000 in
theorem k_X10_addEvent {u : Nat} {N : Nat} {Φ : dc_M → Option Value → dc_M → Prop} (x0 : Nat) (x1 : Int32) (x2 : Int32) (m : dc_M) (kR : ∀  (m : dc_M), Φ (m) (none) m)  {lv : ab_L} (f0 : ab_lk lv 0 = some (.ref x0)) (f1 : ab_lk lv 1 = some (.int x1)) (f2 : ab_lk lv 2 = some (.int x2)) : dc_pv u N ab_M_X10_addEvent 0 lv [] m (Φ (d_X10_addEvent x0 x1 x2 m)) := by
  refine dc_pv.mono (dc_ok (C := C_X10_addEvent) (S := S_X10_addEvent) CO_X10_addEvent 400 0 [(0, .ref x0), (1, .int x1), (2, .int x2)] lv [] m (dc_sub_cons f0 (dc_sub_cons f1 (dc_sub_cons f2 (dc_sub_nil)))) ?_) (Nat.le_succ N)
  unfold d_X10_addEvent
  refine dg_s (pc' := 1) [.ref x0] rfl (fun _ => rfl) rfl ?_
  refine dg_s (pc' := 4) [.int (m.1 x0 3)] rfl (fun _ => rfl) rfl ?_
  refine dg_L (pc' := 5) [(3, .int (m.1 x0 3)), (0, .ref x0), (1, .int x1), (2, .int x2)] [] rfl (fun _ => rfl) rfl ?_
  refine dg_s (pc' := 6) [.ref x0] rfl (fun _ => rfl) rfl ?_
  refine dg_s (pc' := 9) [.ref (x0 + 3)] rfl (fun _ => rfl) rfl ?_
  refine dg_s (pc' := 10) [.int (m.1 x0 3), .ref (x0 + 3)] rfl (fun _ => rfl) rfl ?_
  refine dg_s (pc' := 11) [.ref x0, .int (m.1 x0 3), .ref (x0 + 3)] rfl (fun _ => rfl) rfl ?_
  refine dg_s (pc' := 14) [.int (m.1 x0 0), .int (m.1 x0 3), .ref (x0 + 3)] rfl (fun _ => rfl) rfl ?_
  refine dg_m (pc' := 15) (dc_wi m (x0 + 3) (Int32.toNatClampNeg (m.1 x0 3)) (m.1 x0 0)) [] rfl (fun _ => rfl) rfl ?_
  refine dg_s (pc' := 16) [.ref x0] rfl (fun _ => rfl) rfl ?_
  refine dg_s (pc' := 19) [.ref (x0 + 4)] rfl (fun _ => rfl) rfl ?_
  refine dg_s (pc' := 20) [.int (m.1 x0 3), .ref (x0 + 4)] rfl (fun _ => rfl) rfl ?_
  refine dg_s (pc' := 21) [.int x2, .int (m.1 x0 3), .ref (x0 + 4)] rfl (fun _ => rfl) rfl ?_
  refine dg_m (pc' := 22) (dc_wi (dc_wi m (x0 + 3) (Int32.toNatClampNeg (m.1 x0 3)) (m.1 x0 0)) (x0 + 4) (Int32.toNatClampNeg (m.1 x0 3)) x2) [] rfl (fun _ => rfl) rfl ?_
  refine dg_s (pc' := 23) [.ref x0] rfl (fun _ => rfl) rfl ?_
  refine dg_s (pc' := 26) [.ref (x0 + 5)] rfl (fun _ => rfl) rfl ?_
  refine dg_s (pc' := 27) [.int (m.1 x0 3), .ref (x0 + 5)] rfl (fun _ => rfl) rfl ?_
  refine dg_s (pc' := 28) [.int (0 : Int32), .int (m.1 x0 3), .ref (x0 + 5)] rfl (fun _ => rfl) rfl ?_
  refine dg_m (pc' := 29) (dc_wi (dc_wi (dc_wi m (x0 + 3) (Int32.toNatClampNeg (m.1 x0 3)) (m.1 x0 0)) (x0 + 4) (Int32.toNatClampNeg (m.1 x0 3)) x2) (x0 + 5) (Int32.toNatClampNeg (m.1 x0 3)) (0 : Int32)) [] rfl (fun _ => rfl) rfl ?_
  refine dg_s (pc' := 30) [.ref x0] rfl (fun _ => rfl) rfl ?_
  refine dg_s (pc' := 33) [.ref (x0 + 6)] rfl (fun _ => rfl) rfl ?_
  refine dg_s (pc' := 34) [.int (m.1 x0 3), .ref (x0 + 6)] rfl (fun _ => rfl) rfl ?_
  refine dg_s (pc' := 35) [.int (1 : Int32), .int (m.1 x0 3), .ref (x0 + 6)] rfl (fun _ => rfl) rfl ?_
  refine dg_s (pc' := 36) [.ref x0, .int (1 : Int32), .int (m.1 x0 3), .ref (x0 + 6)] rfl (fun _ => rfl) rfl ?_
  refine dg_s (pc' := 39) [.int ((dc_wi (dc_wi (dc_wi m (x0 + 3) (Int32.toNatClampNeg (m.1 x0 3)) (m.1 x0 0)) (x0 + 4) (Int32.toNatClampNeg (m.1 x0 3)) x2) (x0 + 5) (Int32.toNatClampNeg (m.1 x0 3)) (0 : Int32)).1 x0 10), .int (1 : Int32), .int (m.1 x0 3), .ref (x0 + 6)] rfl (fun _ => rfl) rfl ?_
  refine dg_s (pc' := 40) [.int ((1 : Int32) <<< (((dc_wi (dc_wi (dc_wi m (x0 + 3) (Int32.toNatClampNeg (m.1 x0 3)) (m.1 x0 0)) (x0 + 4) (Int32.toNatClampNeg (m.1 x0 3)) x2) (x0 + 5) (Int32.toNatClampNeg (m.1 x0 3)) (0 : Int32)).1 x0 10) &&& 31)), .int (m.1 x0 3), .ref (x0 + 6)] rfl (fun _ => rfl) rfl ?_
  refine dg_m (pc' := 41) (dc_wi (dc_wi (dc_wi (dc_wi m (x0 + 3) (Int32.toNatClampNeg (m.1 x0 3)) (m.1 x0 0)) (x0 + 4) (Int32.toNatClampNeg (m.1 x0 3)) x2) (x0 + 5) (Int32.toNatClampNeg (m.1 x0 3)) (0 : Int32)) (x0 + 6) (Int32.toNatClampNeg (m.1 x0 3)) ((1 : Int32) <<< (((dc_wi (dc_wi (dc_wi m (x0 + 3) (Int32.toNatClampNeg (m.1 x0 3)) (m.1 x0 0)) (x0 + 4) (Int32.toNatClampNeg (m.1 x0 3)) x2) (x0 + 5) (Int32.toNatClampNeg (m.1 x0 3)) (0 : Int32)).1 x0 10) &&& 31))) [] rfl (fun _ => rfl) rfl ?_
  refine dg_s (pc' := 42) [.ref x0] rfl (fun _ => rfl) rfl ?_
  refine dg_s (pc' := 45) [.ref (x0 + 7)] rfl (fun _ => rfl) rfl ?_
  refine dg_s (pc' := 46) [.int (m.1 x0 3), .ref (x0 + 7)] rfl (fun _ => rfl) rfl ?_
  refine dg_s (pc' := 47) [.ref x0, .int (m.1 x0 3), .ref (x0 + 7)] rfl (fun _ => rfl) rfl ?_
  refine dg_s (pc' := 50) [.ref (x0 + 7), .int (m.1 x0 3), .ref (x0 + 7)] rfl (fun _ => rfl) rfl ?_
  refine dg_s (pc' := 51) [.int x1, .ref (x0 + 7), .int (m.1 x0 3), .ref (x0 + 7)] rfl (fun _ => rfl) rfl ?_
  refine dg_s (pc' := 52) [.int ((dc_wi (dc_wi (dc_wi (dc_wi m (x0 + 3) (Int32.toNatClampNeg (m.1 x0 3)) (m.1 x0 0)) (x0 + 4) (Int32.toNatClampNeg (m.1 x0 3)) x2) (x0 + 5) (Int32.toNatClampNeg (m.1 x0 3)) (0 : Int32)) (x0 + 6) (Int32.toNatClampNeg (m.1 x0 3)) ((1 : Int32) <<< (((dc_wi (dc_wi (dc_wi m (x0 + 3) (Int32.toNatClampNeg (m.1 x0 3)) (m.1 x0 0)) (x0 + 4) (Int32.toNatClampNeg (m.1 x0 3)) x2) (x0 + 5) (Int32.toNatClampNeg (m.1 x0 3)) (0 : Int32)).1 x0 10) &&& 31))).1 (x0 + 7) (Int32.toNatClampNeg x1)), .int (m.1 x0 3), .ref (x0 + 7)] rfl (fun _ => rfl) rfl ?_
  refine dg_m (pc' := 53) (dc_wi (dc_wi (dc_wi (dc_wi (dc_wi m (x0 + 3) (Int32.toNatClampNeg (m.1 x0 3)) (m.1 x0 0)) (x0 + 4) (Int32.toNatClampNeg (m.1 x0 3)) x2) (x0 + 5) (Int32.toNatClampNeg (m.1 x0 3)) (0 : Int32)) (x0 + 6) (Int32.toNatClampNeg (m.1 x0 3)) ((1 : Int32) <<< (((dc_wi (dc_wi (dc_wi m (x0 + 3) (Int32.toNatClampNeg (m.1 x0 3)) (m.1 x0 0)) (x0 + 4) (Int32.toNatClampNeg (m.1 x0 3)) x2) (x0 + 5) (Int32.toNatClampNeg (m.1 x0 3)) (0 : Int32)).1 x0 10) &&& 31))) (x0 + 7) (Int32.toNatClampNeg (m.1 x0 3)) ((dc_wi (dc_wi (dc_wi (dc_wi m (x0 + 3) (Int32.toNatClampNeg (m.1 x0 3)) (m.1 x0 0)) (x0 + 4) (Int32.toNatClampNeg (m.1 x0 3)) x2) (x0 + 5) (Int32.toNatClampNeg (m.1 x0 3)) (0 : Int32)) (x0 + 6) (Int32.toNatClampNeg (m.1 x0 3)) ((1 : Int32) <<< (((dc_wi (dc_wi (dc_wi m (x0 + 3) (Int32.toNatClampNeg (m.1 x0 3)) (m.1 x0 0)) (x0 + 4) (Int32.toNatClampNeg (m.1 x0 3)) x2) (x0 + 5) (Int32.toNatClampNeg (m.1 x0 3)) (0 : Int32)).1 x0 10) &&& 31))).1 (x0 + 7) (Int32.toNatClampNeg x1))) [] rfl (fun _ => rfl) rfl ?_
  refine dg_s (pc' := 54) [.ref x0] rfl (fun _ => rfl) rfl ?_
  refine dg_s (pc' := 57) [.ref (x0 + 7)] rfl (fun _ => rfl) rfl ?_
  refine dg_s (pc' := 58) [.int x1, .ref (x0 + 7)] rfl (fun _ => rfl) rfl ?_
  refine dg_s (pc' := 59) [.int (1 : Int32), .int x1, .ref (x0 + 7)] rfl (fun _ => rfl) rfl ?_
  refine dg_s (pc' := 60) [.ref x0, .int (1 : Int32), .int x1, .ref (x0 + 7)] rfl (fun _ => rfl) rfl ?_
  refine dg_s (pc' := 63) [.int ((dc_wi (dc_wi (dc_wi (dc_wi (dc_wi m (x0 + 3) (Int32.toNatClampNeg (m.1 x0 3)) (m.1 x0 0)) (x0 + 4) (Int32.toNatClampNeg (m.1 x0 3)) x2) (x0 + 5) (Int32.toNatClampNeg (m.1 x0 3)) (0 : Int32)) (x0 + 6) (Int32.toNatClampNeg (m.1 x0 3)) ((1 : Int32) <<< (((dc_wi (dc_wi (dc_wi m (x0 + 3) (Int32.toNatClampNeg (m.1 x0 3)) (m.1 x0 0)) (x0 + 4) (Int32.toNatClampNeg (m.1 x0 3)) x2) (x0 + 5) (Int32.toNatClampNeg (m.1 x0 3)) (0 : Int32)).1 x0 10) &&& 31))) (x0 + 7) (Int32.toNatClampNeg (m.1 x0 3)) ((dc_wi (dc_wi (dc_wi (dc_wi m (x0 + 3) (Int32.toNatClampNeg (m.1 x0 3)) (m.1 x0 0)) (x0 + 4) (Int32.toNatClampNeg (m.1 x0 3)) x2) (x0 + 5) (Int32.toNatClampNeg (m.1 x0 3)) (0 : Int32)) (x0 + 6) (Int32.toNatClampNeg (m.1 x0 3)) ((1 : Int32) <<< (((dc_wi (dc_wi (dc_wi m (x0 + 3) (Int32.toNatClampNeg (m.1 x0 3)) (m.1 x0 0)) (x0 + 4) (Int32.toNatClampNeg (m.1 x0 3)) x2) (x0 + 5) (Int32.toNatClampNeg (m.1 x0 3)) (0 : Int32)).1 x0 10) &&& 31))).1 (x0 + 7) (Int32.toNatClampNeg x1))).1 x0 10), .int (1 : Int32), .int x1, .ref (x0 + 7)] rfl (fun _ => rfl) rfl ?_
  refine dg_s (pc' := 64) [.int ((1 : Int32) <<< (((dc_wi (dc_wi (dc_wi (dc_wi (dc_wi m (x0 + 3) (Int32.toNatClampNeg (m.1 x0 3)) (m.1 x0 0)) (x0 + 4) (Int32.toNatClampNeg (m.1 x0 3)) x2) (x0 + 5) (Int32.toNatClampNeg (m.1 x0 3)) (0 : Int32)) (x0 + 6) (Int32.toNatClampNeg (m.1 x0 3)) ((1 : Int32) <<< (((dc_wi (dc_wi (dc_wi m (x0 + 3) (Int32.toNatClampNeg (m.1 x0 3)) (m.1 x0 0)) (x0 + 4) (Int32.toNatClampNeg (m.1 x0 3)) x2) (x0 + 5) (Int32.toNatClampNeg (m.1 x0 3)) (0 : Int32)).1 x0 10) &&& 31))) (x0 + 7) (Int32.toNatClampNeg (m.1 x0 3)) ((dc_wi (dc_wi (dc_wi (dc_wi m (x0 + 3) (Int32.toNatClampNeg (m.1 x0 3)) (m.1 x0 0)) (x0 + 4) (Int32.toNatClampNeg (m.1 x0 3)) x2) (x0 + 5) (Int32.toNatClampNeg (m.1 x0 3)) (0 : Int32)) (x0 + 6) (Int32.toNatClampNeg (m.1 x0 3)) ((1 : Int32) <<< (((dc_wi (dc_wi (dc_wi m (x0 + 3) (Int32.toNatClampNeg (m.1 x0 3)) (m.1 x0 0)) (x0 + 4) (Int32.toNatClampNeg (m.1 x0 3)) x2) (x0 + 5) (Int32.toNatClampNeg (m.1 x0 3)) (0 : Int32)).1 x0 10) &&& 31))).1 (x0 + 7) (Int32.toNatClampNeg x1))).1 x0 10) &&& 31)), .int x1, .ref (x0 + 7)] rfl (fun _ => rfl) rfl ?_
  refine dg_m (pc' := 65) (dc_wi (dc_wi (dc_wi (dc_wi (dc_wi (dc_wi m (x0 + 3) (Int32.toNatClampNeg (m.1 x0 3)) (m.1 x0 0)) (x0 + 4) (Int32.toNatClampNeg (m.1 x0 3)) x2) (x0 + 5) (Int32.toNatClampNeg (m.1 x0 3)) (0 : Int32)) (x0 + 6) (Int32.toNatClampNeg (m.1 x0 3)) ((1 : Int32) <<< (((dc_wi (dc_wi (dc_wi m (x0 + 3) (Int32.toNatClampNeg (m.1 x0 3)) (m.1 x0 0)) (x0 + 4) (Int32.toNatClampNeg (m.1 x0 3)) x2) (x0 + 5) (Int32.toNatClampNeg (m.1 x0 3)) (0 : Int32)).1 x0 10) &&& 31))) (x0 + 7) (Int32.toNatClampNeg (m.1 x0 3)) ((dc_wi (dc_wi (dc_wi (dc_wi m (x0 + 3) (Int32.toNatClampNeg (m.1 x0 3)) (m.1 x0 0)) (x0 + 4) (Int32.toNatClampNeg (m.1 x0 3)) x2) (x0 + 5) (Int32.toNatClampNeg (m.1 x0 3)) (0 : Int32)) (x0 + 6) (Int32.toNatClampNeg (m.1 x0 3)) ((1 : Int32) <<< (((dc_wi (dc_wi (dc_wi m (x0 + 3) (Int32.toNatClampNeg (m.1 x0 3)) (m.1 x0 0)) (x0 + 4) (Int32.toNatClampNeg (m.1 x0 3)) x2) (x0 + 5) (Int32.toNatClampNeg (m.1 x0 3)) (0 : Int32)).1 x0 10) &&& 31))).1 (x0 + 7) (Int32.toNatClampNeg x1))) (x0 + 7) (Int32.toNatClampNeg x1) ((1 : Int32) <<< (((dc_wi (dc_wi (dc_wi (dc_wi (dc_wi m (x0 + 3) (Int32.toNatClampNeg (m.1 x0 3)) (m.1 x0 0)) (x0 + 4) (Int32.toNatClampNeg (m.1 x0 3)) x2) (x0 + 5) (Int32.toNatClampNeg (m.1 x0 3)) (0 : Int32)) (x0 + 6) (Int32.toNatClampNeg (m.1 x0 3)) ((1 : Int32) <<< (((dc_wi (dc_wi (dc_wi m (x0 + 3) (Int32.toNatClampNeg (m.1 x0 3)) (m.1 x0 0)) (x0 + 4) (Int32.toNatClampNeg (m.1 x0 3)) x2) (x0 + 5) (Int32.toNatClampNeg (m.1 x0 3)) (0 : Int32)).1 x0 10) &&& 31))) (x0 + 7) (Int32.toNatClampNeg (m.1 x0 3)) ((dc_wi (dc_wi (dc_wi (dc_wi m (x0 + 3) (Int32.toNatClampNeg (m.1 x0 3)) (m.1 x0 0)) (x0 + 4) (Int32.toNatClampNeg (m.1 x0 3)) x2) (x0 + 5) (Int32.toNatClampNeg (m.1 x0 3)) (0 : Int32)) (x0 + 6) (Int32.toNatClampNeg (m.1 x0 3)) ((1 : Int32) <<< (((dc_wi (dc_wi (dc_wi m (x0 + 3) (Int32.toNatClampNeg (m.1 x0 3)) (m.1 x0 0)) (x0 + 4) (Int32.toNatClampNeg (m.1 x0 3)) x2) (x0 + 5) (Int32.toNatClampNeg (m.1 x0 3)) (0 : Int32)).1 x0 10) &&& 31))).1 (x0 + 7) (Int32.toNatClampNeg x1))).1 x0 10) &&& 31))) [] rfl (fun _ => rfl) rfl ?_
  refine dg_s (pc' := 66) [.ref x0] rfl (fun _ => rfl) rfl ?_
  refine dg_s (pc' := 69) [.ref (x0 + 8)] rfl (fun _ => rfl) rfl ?_
  refine dg_s (pc' := 70) [.int (m.1 x0 3), .ref (x0 + 8)] rfl (fun _ => rfl) rfl ?_
  refine dg_s (pc' := 71) [.int (1 : Int32), .int (m.1 x0 3), .ref (x0 + 8)] rfl (fun _ => rfl) rfl ?_
  refine dg_m (pc' := 72) (dc_wi (dc_wi (dc_wi (dc_wi (dc_wi (dc_wi (dc_wi m (x0 + 3) (Int32.toNatClampNeg (m.1 x0 3)) (m.1 x0 0)) (x0 + 4) (Int32.toNatClampNeg (m.1 x0 3)) x2) (x0 + 5) (Int32.toNatClampNeg (m.1 x0 3)) (0 : Int32)) (x0 + 6) (Int32.toNatClampNeg (m.1 x0 3)) ((1 : Int32) <<< (((dc_wi (dc_wi (dc_wi m (x0 + 3) (Int32.toNatClampNeg (m.1 x0 3)) (m.1 x0 0)) (x0 + 4) (Int32.toNatClampNeg (m.1 x0 3)) x2) (x0 + 5) (Int32.toNatClampNeg (m.1 x0 3)) (0 : Int32)).1 x0 10) &&& 31))) (x0 + 7) (Int32.toNatClampNeg (m.1 x0 3)) ((dc_wi (dc_wi (dc_wi (dc_wi m (x0 + 3) (Int32.toNatClampNeg (m.1 x0 3)) (m.1 x0 0)) (x0 + 4) (Int32.toNatClampNeg (m.1 x0 3)) x2) (x0 + 5) (Int32.toNatClampNeg (m.1 x0 3)) (0 : Int32)) (x0 + 6) (Int32.toNatClampNeg (m.1 x0 3)) ((1 : Int32) <<< (((dc_wi (dc_wi (dc_wi m (x0 + 3) (Int32.toNatClampNeg (m.1 x0 3)) (m.1 x0 0)) (x0 + 4) (Int32.toNatClampNeg (m.1 x0 3)) x2) (x0 + 5) (Int32.toNatClampNeg (m.1 x0 3)) (0 : Int32)).1 x0 10) &&& 31))).1 (x0 + 7) (Int32.toNatClampNeg x1))) (x0 + 7) (Int32.toNatClampNeg x1) ((1 : Int32) <<< (((dc_wi (dc_wi (dc_wi (dc_wi (dc_wi m (x0 + 3) (Int32.toNatClampNeg (m.1 x0 3)) (m.1 x0 0)) (x0 + 4) (Int32.toNatClampNeg (m.1 x0 3)) x2) (x0 + 5) (Int32.toNatClampNeg (m.1 x0 3)) (0 : Int32)) (x0 + 6) (Int32.toNatClampNeg (m.1 x0 3)) ((1 : Int32) <<< (((dc_wi (dc_wi (dc_wi m (x0 + 3) (Int32.toNatClampNeg (m.1 x0 3)) (m.1 x0 0)) (x0 + 4) (Int32.toNatClampNeg (m.1 x0 3)) x2) (x0 + 5) (Int32.toNatClampNeg (m.1 x0 3)) (0 : Int32)).1 x0 10) &&& 31))) (x0 + 7) (Int32.toNatClampNeg (m.1 x0 3)) ((dc_wi (dc_wi (dc_wi (dc_wi m (x0 + 3) (Int32.toNatClampNeg (m.1 x0 3)) (m.1 x0 0)) (x0 + 4) (Int32.toNatClampNeg (m.1 x0 3)) x2) (x0 + 5) (Int32.toNatClampNeg (m.1 x0 3)) (0 : Int32)) (x0 + 6) (Int32.toNatClampNeg (m.1 x0 3)) ((1 : Int32) <<< (((dc_wi (dc_wi (dc_wi m (x0 + 3) (Int32.toNatClampNeg (m.1 x0 3)) (m.1 x0 0)) (x0 + 4) (Int32.toNatClampNeg (m.1 x0 3)) x2) (x0 + 5) (Int32.toNatClampNeg (m.1 x0 3)) (0 : Int32)).1 x0 10) &&& 31))).1 (x0 + 7) (Int32.toNatClampNeg x1))).1 x0 10) &&& 31))) (x0 + 8) (Int32.toNatClampNeg (m.1 x0 3)) (1 : Int32)) [] rfl (fun _ => rfl) rfl ?_
  refine dg_s (pc' := 73) [.ref x0] rfl (fun _ => rfl) rfl ?_
  refine dg_s (pc' := 74) [.ref x0, .ref x0] rfl (fun _ => rfl) rfl ?_
  refine dg_s (pc' := 77) [.int ((dc_wi (dc_wi (dc_wi (dc_wi (dc_wi (dc_wi (dc_wi m (x0 + 3) (Int32.toNatClampNeg (m.1 x0 3)) (m.1 x0 0)) (x0 + 4) (Int32.toNatClampNeg (m.1 x0 3)) x2) (x0 + 5) (Int32.toNatClampNeg (m.1 x0 3)) (0 : Int32)) (x0 + 6) (Int32.toNatClampNeg (m.1 x0 3)) ((1 : Int32) <<< (((dc_wi (dc_wi (dc_wi m (x0 + 3) (Int32.toNatClampNeg (m.1 x0 3)) (m.1 x0 0)) (x0 + 4) (Int32.toNatClampNeg (m.1 x0 3)) x2) (x0 + 5) (Int32.toNatClampNeg (m.1 x0 3)) (0 : Int32)).1 x0 10) &&& 31))) (x0 + 7) (Int32.toNatClampNeg (m.1 x0 3)) ((dc_wi (dc_wi (dc_wi (dc_wi m (x0 + 3) (Int32.toNatClampNeg (m.1 x0 3)) (m.1 x0 0)) (x0 + 4) (Int32.toNatClampNeg (m.1 x0 3)) x2) (x0 + 5) (Int32.toNatClampNeg (m.1 x0 3)) (0 : Int32)) (x0 + 6) (Int32.toNatClampNeg (m.1 x0 3)) ((1 : Int32) <<< (((dc_wi (dc_wi (dc_wi m (x0 + 3) (Int32.toNatClampNeg (m.1 x0 3)) (m.1 x0 0)) (x0 + 4) (Int32.toNatClampNeg (m.1 x0 3)) x2) (x0 + 5) (Int32.toNatClampNeg (m.1 x0 3)) (0 : Int32)).1 x0 10) &&& 31))).1 (x0 + 7) (Int32.toNatClampNeg x1))) (x0 + 7) (Int32.toNatClampNeg x1) ((1 : Int32) <<< (((dc_wi (dc_wi (dc_wi (dc_wi (dc_wi m (x0 + 3) (Int32.toNatClampNeg (m.1 x0 3)) (m.1 x0 0)) (x0 + 4) (Int32.toNatClampNeg (m.1 x0 3)) x2) (x0 + 5) (Int32.toNatClampNeg (m.1 x0 3)) (0 : Int32)) (x0 + 6) (Int32.toNatClampNeg (m.1 x0 3)) ((1 : Int32) <<< (((dc_wi (dc_wi (dc_wi m (x0 + 3) (Int32.toNatClampNeg (m.1 x0 3)) (m.1 x0 0)) (x0 + 4) (Int32.toNatClampNeg (m.1 x0 3)) x2) (x0 + 5) (Int32.toNatClampNeg (m.1 x0 3)) (0 : Int32)).1 x0 10) &&& 31))) (x0 + 7) (Int32.toNatClampNeg (m.1 x0 3)) ((dc_wi (dc_wi (dc_wi (dc_wi m (x0 + 3) (Int32.toNatClampNeg (m.1 x0 3)) (m.1 x0 0)) (x0 + 4) (Int32.toNatClampNeg (m.1 x0 3)) x2) (x0 + 5) (Int32.toNatClampNeg (m.1 x0 3)) (0 : Int32)) (x0 + 6) (Int32.toNatClampNeg (m.1 x0 3)) ((1 : Int32) <<< (((dc_wi (dc_wi (dc_wi m (x0 + 3) (Int32.toNatClampNeg (m.1 x0 3)) (m.1 x0 0)) (x0 + 4) (Int32.toNatClampNeg (m.1 x0 3)) x2) (x0 + 5) (Int32.toNatClampNeg (m.1 x0 3)) (0 : Int32)).1 x0 10) &&& 31))).1 (x0 + 7) (Int32.toNatClampNeg x1))).1 x0 10) &&& 31))) (x0 + 8) (Int32.toNatClampNeg (m.1 x0 3)) (1 : Int32)).1 x0 10), .ref x0] rfl (fun _ => rfl) rfl ?_
  refine dg_s (pc' := 78) [.int (1 : Int32), .int ((dc_wi (dc_wi (dc_wi (dc_wi (dc_wi (dc_wi (dc_wi m (x0 + 3) (Int32.toNatClampNeg (m.1 x0 3)) (m.1 x0 0)) (x0 + 4) (Int32.toNatClampNeg (m.1 x0 3)) x2) (x0 + 5) (Int32.toNatClampNeg (m.1 x0 3)) (0 : Int32)) (x0 + 6) (Int32.toNatClampNeg (m.1 x0 3)) ((1 : Int32) <<< (((dc_wi (dc_wi (dc_wi m (x0 + 3) (Int32.toNatClampNeg (m.1 x0 3)) (m.1 x0 0)) (x0 + 4) (Int32.toNatClampNeg (m.1 x0 3)) x2) (x0 + 5) (Int32.toNatClampNeg (m.1 x0 3)) (0 : Int32)).1 x0 10) &&& 31))) (x0 + 7) (Int32.toNatClampNeg (m.1 x0 3)) ((dc_wi (dc_wi (dc_wi (dc_wi m (x0 + 3) (Int32.toNatClampNeg (m.1 x0 3)) (m.1 x0 0)) (x0 + 4) (Int32.toNatClampNeg (m.1 x0 3)) x2) (x0 + 5) (Int32.toNatClampNeg (m.1 x0 3)) (0 : Int32)) (x0 + 6) (Int32.toNatClampNeg (m.1 x0 3)) ((1 : Int32) <<< (((dc_wi (dc_wi (dc_wi m (x0 + 3) (Int32.toNatClampNeg (m.1 x0 3)) (m.1 x0 0)) (x0 + 4) (Int32.toNatClampNeg (m.1 x0 3)) x2) (x0 + 5) (Int32.toNatClampNeg (m.1 x0 3)) (0 : Int32)).1 x0 10) &&& 31))).1 (x0 + 7) (Int32.toNatClampNeg x1))) (x0 + 7) (Int32.toNatClampNeg x1) ((1 : Int32) <<< (((dc_wi (dc_wi (dc_wi (dc_wi (dc_wi m (x0 + 3) (Int32.toNatClampNeg (m.1 x0 3)) (m.1 x0 0)) (x0 + 4) (Int32.toNatClampNeg (m.1 x0 3)) x2) (x0 + 5) (Int32.toNatClampNeg (m.1 x0 3)) (0 : Int32)) (x0 + 6) (Int32.toNatClampNeg (m.1 x0 3)) ((1 : Int32) <<< (((dc_wi (dc_wi (dc_wi m (x0 + 3) (Int32.toNatClampNeg (m.1 x0 3)) (m.1 x0 0)) (x0 + 4) (Int32.toNatClampNeg (m.1 x0 3)) x2) (x0 + 5) (Int32.toNatClampNeg (m.1 x0 3)) (0 : Int32)).1 x0 10) &&& 31))) (x0 + 7) (Int32.toNatClampNeg (m.1 x0 3)) ((dc_wi (dc_wi (dc_wi (dc_wi m (x0 + 3) (Int32.toNatClampNeg (m.1 x0 3)) (m.1 x0 0)) (x0 + 4) (Int32.toNatClampNeg (m.1 x0 3)) x2) (x0 + 5) (Int32.toNatClampNeg (m.1 x0 3)) (0 : Int32)) (x0 + 6) (Int32.toNatClampNeg (m.1 x0 3)) ((1 : Int32) <<< (((dc_wi (dc_wi (dc_wi m (x0 + 3) (Int32.toNatClampNeg (m.1 x0 3)) (m.1 x0 0)) (x0 + 4) (Int32.toNatClampNeg (m.1 x0 3)) x2) (x0 + 5) (Int32.toNatClampNeg (m.1 x0 3)) (0 : Int32)).1 x0 10) &&& 31))).1 (x0 + 7) (Int32.toNatClampNeg x1))).1 x0 10) &&& 31))) (x0 + 8) (Int32.toNatClampNeg (m.1 x0 3)) (1 : Int32)).1 x0 10), .ref x0] rfl (fun _ => rfl) rfl ?_
  refine dg_s (pc' := 79) [.int (((dc_wi (dc_wi (dc_wi (dc_wi (dc_wi (dc_wi (dc_wi m (x0 + 3) (Int32.toNatClampNeg (m.1 x0 3)) (m.1 x0 0)) (x0 + 4) (Int32.toNatClampNeg (m.1 x0 3)) x2) (x0 + 5) (Int32.toNatClampNeg (m.1 x0 3)) (0 : Int32)) (x0 + 6) (Int32.toNatClampNeg (m.1 x0 3)) ((1 : Int32) <<< (((dc_wi (dc_wi (dc_wi m (x0 + 3) (Int32.toNatClampNeg (m.1 x0 3)) (m.1 x0 0)) (x0 + 4) (Int32.toNatClampNeg (m.1 x0 3)) x2) (x0 + 5) (Int32.toNatClampNeg (m.1 x0 3)) (0 : Int32)).1 x0 10) &&& 31))) (x0 + 7) (Int32.toNatClampNeg (m.1 x0 3)) ((dc_wi (dc_wi (dc_wi (dc_wi m (x0 + 3) (Int32.toNatClampNeg (m.1 x0 3)) (m.1 x0 0)) (x0 + 4) (Int32.toNatClampNeg (m.1 x0 3)) x2) (x0 + 5) (Int32.toNatClampNeg (m.1 x0 3)) (0 : Int32)) (x0 + 6) (Int32.toNatClampNeg (m.1 x0 3)) ((1 : Int32) <<< (((dc_wi (dc_wi (dc_wi m (x0 + 3) (Int32.toNatClampNeg (m.1 x0 3)) (m.1 x0 0)) (x0 + 4) (Int32.toNatClampNeg (m.1 x0 3)) x2) (x0 + 5) (Int32.toNatClampNeg (m.1 x0 3)) (0 : Int32)).1 x0 10) &&& 31))).1 (x0 + 7) (Int32.toNatClampNeg x1))) (x0 + 7) (Int32.toNatClampNeg x1) ((1 : Int32) <<< (((dc_wi (dc_wi (dc_wi (dc_wi (dc_wi m (x0 + 3) (Int32.toNatClampNeg (m.1 x0 3)) (m.1 x0 0)) (x0 + 4) (Int32.toNatClampNeg (m.1 x0 3)) x2) (x0 + 5) (Int32.toNatClampNeg (m.1 x0 3)) (0 : Int32)) (x0 + 6) (Int32.toNatClampNeg (m.1 x0 3)) ((1 : Int32) <<< (((dc_wi (dc_wi (dc_wi m (x0 + 3) (Int32.toNatClampNeg (m.1 x0 3)) (m.1 x0 0)) (x0 + 4) (Int32.toNatClampNeg (m.1 x0 3)) x2) (x0 + 5) (Int32.toNatClampNeg (m.1 x0 3)) (0 : Int32)).1 x0 10) &&& 31))) (x0 + 7) (Int32.toNatClampNeg (m.1 x0 3)) ((dc_wi (dc_wi (dc_wi (dc_wi m (x0 + 3) (Int32.toNatClampNeg (m.1 x0 3)) (m.1 x0 0)) (x0 + 4) (Int32.toNatClampNeg (m.1 x0 3)) x2) (x0 + 5) (Int32.toNatClampNeg (m.1 x0 3)) (0 : Int32)) (x0 + 6) (Int32.toNatClampNeg (m.1 x0 3)) ((1 : Int32) <<< (((dc_wi (dc_wi (dc_wi m (x0 + 3) (Int32.toNatClampNeg (m.1 x0 3)) (m.1 x0 0)) (x0 + 4) (Int32.toNatClampNeg (m.1 x0 3)) x2) (x0 + 5) (Int32.toNatClampNeg (m.1 x0 3)) (0 : Int32)).1 x0 10) &&& 31))).1 (x0 + 7) (Int32.toNatClampNeg x1))).1 x0 10) &&& 31))) (x0 + 8) (Int32.toNatClampNeg (m.1 x0 3)) (1 : Int32)).1 x0 10) + (1 : Int32)), .ref x0] rfl (fun _ => rfl) rfl ?_
  refine dg_m (pc' := 82) (dc_wi (dc_wi (dc_wi (dc_wi (dc_wi (dc_wi (dc_wi (dc_wi m (x0 + 3) (Int32.toNatClampNeg (m.1 x0 3)) (m.1 x0 0)) (x0 + 4) (Int32.toNatClampNeg (m.1 x0 3)) x2) (x0 + 5) (Int32.toNatClampNeg (m.1 x0 3)) (0 : Int32)) (x0 + 6) (Int32.toNatClampNeg (m.1 x0 3)) ((1 : Int32) <<< (((dc_wi (dc_wi (dc_wi m (x0 + 3) (Int32.toNatClampNeg (m.1 x0 3)) (m.1 x0 0)) (x0 + 4) (Int32.toNatClampNeg (m.1 x0 3)) x2) (x0 + 5) (Int32.toNatClampNeg (m.1 x0 3)) (0 : Int32)).1 x0 10) &&& 31))) (x0 + 7) (Int32.toNatClampNeg (m.1 x0 3)) ((dc_wi (dc_wi (dc_wi (dc_wi m (x0 + 3) (Int32.toNatClampNeg (m.1 x0 3)) (m.1 x0 0)) (x0 + 4) (Int32.toNatClampNeg (m.1 x0 3)) x2) (x0 + 5) (Int32.toNatClampNeg (m.1 x0 3)) (0 : Int32)) (x0 + 6) (Int32.toNatClampNeg (m.1 x0 3)) ((1 : Int32) <<< (((dc_wi (dc_wi (dc_wi m (x0 + 3) (Int32.toNatClampNeg (m.1 x0 3)) (m.1 x0 0)) (x0 + 4) (Int32.toNatClampNeg (m.1 x0 3)) x2) (x0 + 5) (Int32.toNatClampNeg (m.1 x0 3)) (0 : Int32)).1 x0 10) &&& 31))).1 (x0 + 7) (Int32.toNatClampNeg x1))) (x0 + 7) (Int32.toNatClampNeg x1) ((1 : Int32) <<< (((dc_wi (dc_wi (dc_wi (dc_wi (dc_wi m (x0 + 3) (Int32.toNatClampNeg (m.1 x0 3)) (m.1 x0 0)) (x0 + 4) (Int32.toNatClampNeg (m.1 x0 3)) x2) (x0 + 5) (Int32.toNatClampNeg (m.1 x0 3)) (0 : Int32)) (x0 + 6) (Int32.toNatClampNeg (m.1 x0 3)) ((1 : Int32) <<< (((dc_wi (dc_wi (dc_wi m (x0 + 3) (Int32.toNatClampNeg (m.1 x0 3)) (m.1 x0 0)) (x0 + 4) (Int32.toNatClampNeg (m.1 x0 3)) x2) (x0 + 5) (Int32.toNatClampNeg (m.1 x0 3)) (0 : Int32)).1 x0 10) &&& 31))) (x0 + 7) (Int32.toNatClampNeg (m.1 x0 3)) ((dc_wi (dc_wi (dc_wi (dc_wi m (x0 + 3) (Int32.toNatClampNeg (m.1 x0 3)) (m.1 x0 0)) (x0 + 4) (Int32.toNatClampNeg (m.1 x0 3)) x2) (x0 + 5) (Int32.toNatClampNeg (m.1 x0 3)) (0 : Int32)) (x0 + 6) (Int32.toNatClampNeg (m.1 x0 3)) ((1 : Int32) <<< (((dc_wi (dc_wi (dc_wi m (x0 + 3) (Int32.toNatClampNeg (m.1 x0 3)) (m.1 x0 0)) (x0 + 4) (Int32.toNatClampNeg (m.1 x0 3)) x2) (x0 + 5) (Int32.toNatClampNeg (m.1 x0 3)) (0 : Int32)).1 x0 10) &&& 31))).1 (x0 + 7) (Int32.toNatClampNeg x1))).1 x0 10) &&& 31))) (x0 + 8) (Int32.toNatClampNeg (m.1 x0 3)) (1 : Int32)) x0 10 (((dc_wi (dc_wi (dc_wi (dc_wi (dc_wi (dc_wi (dc_wi m (x0 + 3) (Int32.toNatClampNeg (m.1 x0 3)) (m.1 x0 0)) (x0 + 4) (Int32.toNatClampNeg (m.1 x0 3)) x2) (x0 + 5) (Int32.toNatClampNeg (m.1 x0 3)) (0 : Int32)) (x0 + 6) (Int32.toNatClampNeg (m.1 x0 3)) ((1 : Int32) <<< (((dc_wi (dc_wi (dc_wi m (x0 + 3) (Int32.toNatClampNeg (m.1 x0 3)) (m.1 x0 0)) (x0 + 4) (Int32.toNatClampNeg (m.1 x0 3)) x2) (x0 + 5) (Int32.toNatClampNeg (m.1 x0 3)) (0 : Int32)).1 x0 10) &&& 31))) (x0 + 7) (Int32.toNatClampNeg (m.1 x0 3)) ((dc_wi (dc_wi (dc_wi (dc_wi m (x0 + 3) (Int32.toNatClampNeg (m.1 x0 3)) (m.1 x0 0)) (x0 + 4) (Int32.toNatClampNeg (m.1 x0 3)) x2) (x0 + 5) (Int32.toNatClampNeg (m.1 x0 3)) (0 : Int32)) (x0 + 6) (Int32.toNatClampNeg (m.1 x0 3)) ((1 : Int32) <<< (((dc_wi (dc_wi (dc_wi m (x0 + 3) (Int32.toNatClampNeg (m.1 x0 3)) (m.1 x0 0)) (x0 + 4) (Int32.toNatClampNeg (m.1 x0 3)) x2) (x0 + 5) (Int32.toNatClampNeg (m.1 x0 3)) (0 : Int32)).1 x0 10) &&& 31))).1 (x0 + 7) (Int32.toNatClampNeg x1))) (x0 + 7) (Int32.toNatClampNeg x1) ((1 : Int32) <<< (((dc_wi (dc_wi (dc_wi (dc_wi (dc_wi m (x0 + 3) (Int32.toNatClampNeg (m.1 x0 3)) (m.1 x0 0)) (x0 + 4) (Int32.toNatClampNeg (m.1 x0 3)) x2) (x0 + 5) (Int32.toNatClampNeg (m.1 x0 3)) (0 : Int32)) (x0 + 6) (Int32.toNatClampNeg (m.1 x0 3)) ((1 : Int32) <<< (((dc_wi (dc_wi (dc_wi m (x0 + 3) (Int32.toNatClampNeg (m.1 x0 3)) (m.1 x0 0)) (x0 + 4) (Int32.toNatClampNeg (m.1 x0 3)) x2) (x0 + 5) (Int32.toNatClampNeg (m.1 x0 3)) (0 : Int32)).1 x0 10) &&& 31))) (x0 + 7) (Int32.toNatClampNeg (m.1 x0 3)) ((dc_wi (dc_wi (dc_wi (dc_wi m (x0 + 3) (Int32.toNatClampNeg (m.1 x0 3)) (m.1 x0 0)) (x0 + 4) (Int32.toNatClampNeg (m.1 x0 3)) x2) (x0 + 5) (Int32.toNatClampNeg (m.1 x0 3)) (0 : Int32)) (x0 + 6) (Int32.toNatClampNeg (m.1 x0 3)) ((1 : Int32) <<< (((dc_wi (dc_wi (dc_wi m (x0 + 3) (Int32.toNatClampNeg (m.1 x0 3)) (m.1 x0 0)) (x0 + 4) (Int32.toNatClampNeg (m.1 x0 3)) x2) (x0 + 5) (Int32.toNatClampNeg (m.1 x0 3)) (0 : Int32)).1 x0 10) &&& 31))).1 (x0 + 7) (Int32.toNatClampNeg x1))).1 x0 10) &&& 31))) (x0 + 8) (Int32.toNatClampNeg (m.1 x0 3)) (1 : Int32)).1 x0 10) + (1 : Int32))) [] rfl (fun _ => rfl) rfl ?_
  refine dg_s (pc' := 83) [.ref x0] rfl (fun _ => rfl) rfl ?_
  refine dg_s (pc' := 84) [.ref x0, .ref x0] rfl (fun _ => rfl) rfl ?_
  refine dg_s (pc' := 87) [.int ((dc_wi (dc_wi (dc_wi (dc_wi (dc_wi (dc_wi (dc_wi (dc_wi m (x0 + 3) (Int32.toNatClampNeg (m.1 x0 3)) (m.1 x0 0)) (x0 + 4) (Int32.toNatClampNeg (m.1 x0 3)) x2) (x0 + 5) (Int32.toNatClampNeg (m.1 x0 3)) (0 : Int32)) (x0 + 6) (Int32.toNatClampNeg (m.1 x0 3)) ((1 : Int32) <<< (((dc_wi (dc_wi (dc_wi m (x0 + 3) (Int32.toNatClampNeg (m.1 x0 3)) (m.1 x0 0)) (x0 + 4) (Int32.toNatClampNeg (m.1 x0 3)) x2) (x0 + 5) (Int32.toNatClampNeg (m.1 x0 3)) (0 : Int32)).1 x0 10) &&& 31))) (x0 + 7) (Int32.toNatClampNeg (m.1 x0 3)) ((dc_wi (dc_wi (dc_wi (dc_wi m (x0 + 3) (Int32.toNatClampNeg (m.1 x0 3)) (m.1 x0 0)) (x0 + 4) (Int32.toNatClampNeg (m.1 x0 3)) x2) (x0 + 5) (Int32.toNatClampNeg (m.1 x0 3)) (0 : Int32)) (x0 + 6) (Int32.toNatClampNeg (m.1 x0 3)) ((1 : Int32) <<< (((dc_wi (dc_wi (dc_wi m (x0 + 3) (Int32.toNatClampNeg (m.1 x0 3)) (m.1 x0 0)) (x0 + 4) (Int32.toNatClampNeg (m.1 x0 3)) x2) (x0 + 5) (Int32.toNatClampNeg (m.1 x0 3)) (0 : Int32)).1 x0 10) &&& 31))).1 (x0 + 7) (Int32.toNatClampNeg x1))) (x0 + 7) (Int32.toNatClampNeg x1) ((1 : Int32) <<< (((dc_wi (dc_wi (dc_wi (dc_wi (dc_wi m (x0 + 3) (Int32.toNatClampNeg (m.1 x0 3)) (m.1 x0 0)) (x0 + 4) (Int32.toNatClampNeg (m.1 x0 3)) x2) (x0 + 5) (Int32.toNatClampNeg (m.1 x0 3)) (0 : Int32)) (x0 + 6) (Int32.toNatClampNeg (m.1 x0 3)) ((1 : Int32) <<< (((dc_wi (dc_wi (dc_wi m (x0 + 3) (Int32.toNatClampNeg (m.1 x0 3)) (m.1 x0 0)) (x0 + 4) (Int32.toNatClampNeg (m.1 x0 3)) x2) (x0 + 5) (Int32.toNatClampNeg (m.1 x0 3)) (0 : Int32)).1 x0 10) &&& 31))) (x0 + 7) (Int32.toNatClampNeg (m.1 x0 3)) ((dc_wi (dc_wi (dc_wi (dc_wi m (x0 + 3) (Int32.toNatClampNeg (m.1 x0 3)) (m.1 x0 0)) (x0 + 4) (Int32.toNatClampNeg (m.1 x0 3)) x2) (x0 + 5) (Int32.toNatClampNeg (m.1 x0 3)) (0 : Int32)) (x0 + 6) (Int32.toNatClampNeg (m.1 x0 3)) ((1 : Int32) <<< (((dc_wi (dc_wi (dc_wi m (x0 + 3) (Int32.toNatClampNeg (m.1 x0 3)) (m.1 x0 0)) (x0 + 4) (Int32.toNatClampNeg (m.1 x0 3)) x2) (x0 + 5) (Int32.toNatClampNeg (m.1 x0 3)) (0 : Int32)).1 x0 10) &&& 31))).1 (x0 + 7) (Int32.toNatClampNeg x1))).1 x0 10) &&& 31))) (x0 + 8) (Int32.toNatClampNeg (m.1 x0 3)) (1 : Int32)) x0 10 (((dc_wi (dc_wi (dc_wi (dc_wi (dc_wi (dc_wi (dc_wi m (x0 + 3) (Int32.toNatClampNeg (m.1 x0 3)) (m.1 x0 0)) (x0 + 4) (Int32.toNatClampNeg (m.1 x0 3)) x2) (x0 + 5) (Int32.toNatClampNeg (m.1 x0 3)) (0 : Int32)) (x0 + 6) (Int32.toNatClampNeg (m.1 x0 3)) ((1 : Int32) <<< (((dc_wi (dc_wi (dc_wi m (x0 + 3) (Int32.toNatClampNeg (m.1 x0 3)) (m.1 x0 0)) (x0 + 4) (Int32.toNatClampNeg (m.1 x0 3)) x2) (x0 + 5) (Int32.toNatClampNeg (m.1 x0 3)) (0 : Int32)).1 x0 10) &&& 31))) (x0 + 7) (Int32.toNatClampNeg (m.1 x0 3)) ((dc_wi (dc_wi (dc_wi (dc_wi m (x0 + 3) (Int32.toNatClampNeg (m.1 x0 3)) (m.1 x0 0)) (x0 + 4) (Int32.toNatClampNeg (m.1 x0 3)) x2) (x0 + 5) (Int32.toNatClampNeg (m.1 x0 3)) (0 : Int32)) (x0 + 6) (Int32.toNatClampNeg (m.1 x0 3)) ((1 : Int32) <<< (((dc_wi (dc_wi (dc_wi m (x0 + 3) (Int32.toNatClampNeg (m.1 x0 3)) (m.1 x0 0)) (x0 + 4) (Int32.toNatClampNeg (m.1 x0 3)) x2) (x0 + 5) (Int32.toNatClampNeg (m.1 x0 3)) (0 : Int32)).1 x0 10) &&& 31))).1 (x0 + 7) (Int32.toNatClampNeg x1))) (x0 + 7) (Int32.toNatClampNeg x1) ((1 : Int32) <<< (((dc_wi (dc_wi (dc_wi (dc_wi (dc_wi m (x0 + 3) (Int32.toNatClampNeg (m.1 x0 3)) (m.1 x0 0)) (x0 + 4) (Int32.toNatClampNeg (m.1 x0 3)) x2) (x0 + 5) (Int32.toNatClampNeg (m.1 x0 3)) (0 : Int32)) (x0 + 6) (Int32.toNatClampNeg (m.1 x0 3)) ((1 : Int32) <<< (((dc_wi (dc_wi (dc_wi m (x0 + 3) (Int32.toNatClampNeg (m.1 x0 3)) (m.1 x0 0)) (x0 + 4) (Int32.toNatClampNeg (m.1 x0 3)) x2) (x0 + 5) (Int32.toNatClampNeg (m.1 x0 3)) (0 : Int32)).1 x0 10) &&& 31))) (x0 + 7) (Int32.toNatClampNeg (m.1 x0 3)) ((dc_wi (dc_wi (dc_wi (dc_wi m (x0 + 3) (Int32.toNatClampNeg (m.1 x0 3)) (m.1 x0 0)) (x0 + 4) (Int32.toNatClampNeg (m.1 x0 3)) x2) (x0 + 5) (Int32.toNatClampNeg (m.1 x0 3)) (0 : Int32)) (x0 + 6) (Int32.toNatClampNeg (m.1 x0 3)) ((1 : Int32) <<< (((dc_wi (dc_wi (dc_wi m (x0 + 3) (Int32.toNatClampNeg (m.1 x0 3)) (m.1 x0 0)) (x0 + 4) (Int32.toNatClampNeg (m.1 x0 3)) x2) (x0 + 5) (Int32.toNatClampNeg (m.1 x0 3)) (0 : Int32)).1 x0 10) &&& 31))).1 (x0 + 7) (Int32.toNatClampNeg x1))).1 x0 10) &&& 31))) (x0 + 8) (Int32.toNatClampNeg (m.1 x0 3)) (1 : Int32)).1 x0 10) + (1 : Int32))).1 x0 3), .ref x0] rfl (fun _ => rfl) rfl ?_
  refine dg_s (pc' := 88) [.int (1 : Int32), .int ((dc_wi (dc_wi (dc_wi (dc_wi (dc_wi (dc_wi (dc_wi (dc_wi m (x0 + 3) (Int32.toNatClampNeg (m.1 x0 3)) (m.1 x0 0)) (x0 + 4) (Int32.toNatClampNeg (m.1 x0 3)) x2) (x0 + 5) (Int32.toNatClampNeg (m.1 x0 3)) (0 : Int32)) (x0 + 6) (Int32.toNatClampNeg (m.1 x0 3)) ((1 : Int32) <<< (((dc_wi (dc_wi (dc_wi m (x0 + 3) (Int32.toNatClampNeg (m.1 x0 3)) (m.1 x0 0)) (x0 + 4) (Int32.toNatClampNeg (m.1 x0 3)) x2) (x0 + 5) (Int32.toNatClampNeg (m.1 x0 3)) (0 : Int32)).1 x0 10) &&& 31))) (x0 + 7) (Int32.toNatClampNeg (m.1 x0 3)) ((dc_wi (dc_wi (dc_wi (dc_wi m (x0 + 3) (Int32.toNatClampNeg (m.1 x0 3)) (m.1 x0 0)) (x0 + 4) (Int32.toNatClampNeg (m.1 x0 3)) x2) (x0 + 5) (Int32.toNatClampNeg (m.1 x0 3)) (0 : Int32)) (x0 + 6) (Int32.toNatClampNeg (m.1 x0 3)) ((1 : Int32) <<< (((dc_wi (dc_wi (dc_wi m (x0 + 3) (Int32.toNatClampNeg (m.1 x0 3)) (m.1 x0 0)) (x0 + 4) (Int32.toNatClampNeg (m.1 x0 3)) x2) (x0 + 5) (Int32.toNatClampNeg (m.1 x0 3)) (0 : Int32)).1 x0 10) &&& 31))).1 (x0 + 7) (Int32.toNatClampNeg x1))) (x0 + 7) (Int32.toNatClampNeg x1) ((1 : Int32) <<< (((dc_wi (dc_wi (dc_wi (dc_wi (dc_wi m (x0 + 3) (Int32.toNatClampNeg (m.1 x0 3)) (m.1 x0 0)) (x0 + 4) (Int32.toNatClampNeg (m.1 x0 3)) x2) (x0 + 5) (Int32.toNatClampNeg (m.1 x0 3)) (0 : Int32)) (x0 + 6) (Int32.toNatClampNeg (m.1 x0 3)) ((1 : Int32) <<< (((dc_wi (dc_wi (dc_wi m (x0 + 3) (Int32.toNatClampNeg (m.1 x0 3)) (m.1 x0 0)) (x0 + 4) (Int32.toNatClampNeg (m.1 x0 3)) x2) (x0 + 5) (Int32.toNatClampNeg (m.1 x0 3)) (0 : Int32)).1 x0 10) &&& 31))) (x0 + 7) (Int32.toNatClampNeg (m.1 x0 3)) ((dc_wi (dc_wi (dc_wi (dc_wi m (x0 + 3) (Int32.toNatClampNeg (m.1 x0 3)) (m.1 x0 0)) (x0 + 4) (Int32.toNatClampNeg (m.1 x0 3)) x2) (x0 + 5) (Int32.toNatClampNeg (m.1 x0 3)) (0 : Int32)) (x0 + 6) (Int32.toNatClampNeg (m.1 x0 3)) ((1 : Int32) <<< (((dc_wi (dc_wi (dc_wi m (x0 + 3) (Int32.toNatClampNeg (m.1 x0 3)) (m.1 x0 0)) (x0 + 4) (Int32.toNatClampNeg (m.1 x0 3)) x2) (x0 + 5) (Int32.toNatClampNeg (m.1 x0 3)) (0 : Int32)).1 x0 10) &&& 31))).1 (x0 + 7) (Int32.toNatClampNeg x1))).1 x0 10) &&& 31))) (x0 + 8) (Int32.toNatClampNeg (m.1 x0 3)) (1 : Int32)) x0 10 (((dc_wi (dc_wi (dc_wi (dc_wi (dc_wi (dc_wi (dc_wi m (x0 + 3) (Int32.toNatClampNeg (m.1 x0 3)) (m.1 x0 0)) (x0 + 4) (Int32.toNatClampNeg (m.1 x0 3)) x2) (x0 + 5) (Int32.toNatClampNeg (m.1 x0 3)) (0 : Int32)) (x0 + 6) (Int32.toNatClampNeg (m.1 x0 3)) ((1 : Int32) <<< (((dc_wi (dc_wi (dc_wi m (x0 + 3) (Int32.toNatClampNeg (m.1 x0 3)) (m.1 x0 0)) (x0 + 4) (Int32.toNatClampNeg (m.1 x0 3)) x2) (x0 + 5) (Int32.toNatClampNeg (m.1 x0 3)) (0 : Int32)).1 x0 10) &&& 31))) (x0 + 7) (Int32.toNatClampNeg (m.1 x0 3)) ((dc_wi (dc_wi (dc_wi (dc_wi m (x0 + 3) (Int32.toNatClampNeg (m.1 x0 3)) (m.1 x0 0)) (x0 + 4) (Int32.toNatClampNeg (m.1 x0 3)) x2) (x0 + 5) (Int32.toNatClampNeg (m.1 x0 3)) (0 : Int32)) (x0 + 6) (Int32.toNatClampNeg (m.1 x0 3)) ((1 : Int32) <<< (((dc_wi (dc_wi (dc_wi m (x0 + 3) (Int32.toNatClampNeg (m.1 x0 3)) (m.1 x0 0)) (x0 + 4) (Int32.toNatClampNeg (m.1 x0 3)) x2) (x0 + 5) (Int32.toNatClampNeg (m.1 x0 3)) (0 : Int32)).1 x0 10) &&& 31))).1 (x0 + 7) (Int32.toNatClampNeg x1))) (x0 + 7) (Int32.toNatClampNeg x1) ((1 : Int32) <<< (((dc_wi (dc_wi (dc_wi (dc_wi (dc_wi m (x0 + 3) (Int32.toNatClampNeg (m.1 x0 3)) (m.1 x0 0)) (x0 + 4) (Int32.toNatClampNeg (m.1 x0 3)) x2) (x0 + 5) (Int32.toNatClampNeg (m.1 x0 3)) (0 : Int32)) (x0 + 6) (Int32.toNatClampNeg (m.1 x0 3)) ((1 : Int32) <<< (((dc_wi (dc_wi (dc_wi m (x0 + 3) (Int32.toNatClampNeg (m.1 x0 3)) (m.1 x0 0)) (x0 + 4) (Int32.toNatClampNeg (m.1 x0 3)) x2) (x0 + 5) (Int32.toNatClampNeg (m.1 x0 3)) (0 : Int32)).1 x0 10) &&& 31))) (x0 + 7) (Int32.toNatClampNeg (m.1 x0 3)) ((dc_wi (dc_wi (dc_wi (dc_wi m (x0 + 3) (Int32.toNatClampNeg (m.1 x0 3)) (m.1 x0 0)) (x0 + 4) (Int32.toNatClampNeg (m.1 x0 3)) x2) (x0 + 5) (Int32.toNatClampNeg (m.1 x0 3)) (0 : Int32)) (x0 + 6) (Int32.toNatClampNeg (m.1 x0 3)) ((1 : Int32) <<< (((dc_wi (dc_wi (dc_wi m (x0 + 3) (Int32.toNatClampNeg (m.1 x0 3)) (m.1 x0 0)) (x0 + 4) (Int32.toNatClampNeg (m.1 x0 3)) x2) (x0 + 5) (Int32.toNatClampNeg (m.1 x0 3)) (0 : Int32)).1 x0 10) &&& 31))).1 (x0 + 7) (Int32.toNatClampNeg x1))).1 x0 10) &&& 31))) (x0 + 8) (Int32.toNatClampNeg (m.1 x0 3)) (1 : Int32)).1 x0 10) + (1 : Int32))).1 x0 3), .ref x0] rfl (fun _ => rfl) rfl ?_
  refine dg_s (pc' := 89) [.int (((dc_wi (dc_wi (dc_wi (dc_wi (dc_wi (dc_wi (dc_wi (dc_wi m (x0 + 3) (Int32.toNatClampNeg (m.1 x0 3)) (m.1 x0 0)) (x0 + 4) (Int32.toNatClampNeg (m.1 x0 3)) x2) (x0 + 5) (Int32.toNatClampNeg (m.1 x0 3)) (0 : Int32)) (x0 + 6) (Int32.toNatClampNeg (m.1 x0 3)) ((1 : Int32) <<< (((dc_wi (dc_wi (dc_wi m (x0 + 3) (Int32.toNatClampNeg (m.1 x0 3)) (m.1 x0 0)) (x0 + 4) (Int32.toNatClampNeg (m.1 x0 3)) x2) (x0 + 5) (Int32.toNatClampNeg (m.1 x0 3)) (0 : Int32)).1 x0 10) &&& 31))) (x0 + 7) (Int32.toNatClampNeg (m.1 x0 3)) ((dc_wi (dc_wi (dc_wi (dc_wi m (x0 + 3) (Int32.toNatClampNeg (m.1 x0 3)) (m.1 x0 0)) (x0 + 4) (Int32.toNatClampNeg (m.1 x0 3)) x2) (x0 + 5) (Int32.toNatClampNeg (m.1 x0 3)) (0 : Int32)) (x0 + 6) (Int32.toNatClampNeg (m.1 x0 3)) ((1 : Int32) <<< (((dc_wi (dc_wi (dc_wi m (x0 + 3) (Int32.toNatClampNeg (m.1 x0 3)) (m.1 x0 0)) (x0 + 4) (Int32.toNatClampNeg (m.1 x0 3)) x2) (x0 + 5) (Int32.toNatClampNeg (m.1 x0 3)) (0 : Int32)).1 x0 10) &&& 31))).1 (x0 + 7) (Int32.toNatClampNeg x1))) (x0 + 7) (Int32.toNatClampNeg x1) ((1 : Int32) <<< (((dc_wi (dc_wi (dc_wi (dc_wi (dc_wi m (x0 + 3) (Int32.toNatClampNeg (m.1 x0 3)) (m.1 x0 0)) (x0 + 4) (Int32.toNatClampNeg (m.1 x0 3)) x2) (x0 + 5) (Int32.toNatClampNeg (m.1 x0 3)) (0 : Int32)) (x0 + 6) (Int32.toNatClampNeg (m.1 x0 3)) ((1 : Int32) <<< (((dc_wi (dc_wi (dc_wi m (x0 + 3) (Int32.toNatClampNeg (m.1 x0 3)) (m.1 x0 0)) (x0 + 4) (Int32.toNatClampNeg (m.1 x0 3)) x2) (x0 + 5) (Int32.toNatClampNeg (m.1 x0 3)) (0 : Int32)).1 x0 10) &&& 31))) (x0 + 7) (Int32.toNatClampNeg (m.1 x0 3)) ((dc_wi (dc_wi (dc_wi (dc_wi m (x0 + 3) (Int32.toNatClampNeg (m.1 x0 3)) (m.1 x0 0)) (x0 + 4) (Int32.toNatClampNeg (m.1 x0 3)) x2) (x0 + 5) (Int32.toNatClampNeg (m.1 x0 3)) (0 : Int32)) (x0 + 6) (Int32.toNatClampNeg (m.1 x0 3)) ((1 : Int32) <<< (((dc_wi (dc_wi (dc_wi m (x0 + 3) (Int32.toNatClampNeg (m.1 x0 3)) (m.1 x0 0)) (x0 + 4) (Int32.toNatClampNeg (m.1 x0 3)) x2) (x0 + 5) (Int32.toNatClampNeg (m.1 x0 3)) (0 : Int32)).1 x0 10) &&& 31))).1 (x0 + 7) (Int32.toNatClampNeg x1))).1 x0 10) &&& 31))) (x0 + 8) (Int32.toNatClampNeg (m.1 x0 3)) (1 : Int32)) x0 10 (((dc_wi (dc_wi (dc_wi (dc_wi (dc_wi (dc_wi (dc_wi m (x0 + 3) (Int32.toNatClampNeg (m.1 x0 3)) (m.1 x0 0)) (x0 + 4) (Int32.toNatClampNeg (m.1 x0 3)) x2) (x0 + 5) (Int32.toNatClampNeg (m.1 x0 3)) (0 : Int32)) (x0 + 6) (Int32.toNatClampNeg (m.1 x0 3)) ((1 : Int32) <<< (((dc_wi (dc_wi (dc_wi m (x0 + 3) (Int32.toNatClampNeg (m.1 x0 3)) (m.1 x0 0)) (x0 + 4) (Int32.toNatClampNeg (m.1 x0 3)) x2) (x0 + 5) (Int32.toNatClampNeg (m.1 x0 3)) (0 : Int32)).1 x0 10) &&& 31))) (x0 + 7) (Int32.toNatClampNeg (m.1 x0 3)) ((dc_wi (dc_wi (dc_wi (dc_wi m (x0 + 3) (Int32.toNatClampNeg (m.1 x0 3)) (m.1 x0 0)) (x0 + 4) (Int32.toNatClampNeg (m.1 x0 3)) x2) (x0 + 5) (Int32.toNatClampNeg (m.1 x0 3)) (0 : Int32)) (x0 + 6) (Int32.toNatClampNeg (m.1 x0 3)) ((1 : Int32) <<< (((dc_wi (dc_wi (dc_wi m (x0 + 3) (Int32.toNatClampNeg (m.1 x0 3)) (m.1 x0 0)) (x0 + 4) (Int32.toNatClampNeg (m.1 x0 3)) x2) (x0 + 5) (Int32.toNatClampNeg (m.1 x0 3)) (0 : Int32)).1 x0 10) &&& 31))).1 (x0 + 7) (Int32.toNatClampNeg x1))) (x0 + 7) (Int32.toNatClampNeg x1) ((1 : Int32) <<< (((dc_wi (dc_wi (dc_wi (dc_wi (dc_wi m (x0 + 3) (Int32.toNatClampNeg (m.1 x0 3)) (m.1 x0 0)) (x0 + 4) (Int32.toNatClampNeg (m.1 x0 3)) x2) (x0 + 5) (Int32.toNatClampNeg (m.1 x0 3)) (0 : Int32)) (x0 + 6) (Int32.toNatClampNeg (m.1 x0 3)) ((1 : Int32) <<< (((dc_wi (dc_wi (dc_wi m (x0 + 3) (Int32.toNatClampNeg (m.1 x0 3)) (m.1 x0 0)) (x0 + 4) (Int32.toNatClampNeg (m.1 x0 3)) x2) (x0 + 5) (Int32.toNatClampNeg (m.1 x0 3)) (0 : Int32)).1 x0 10) &&& 31))) (x0 + 7) (Int32.toNatClampNeg (m.1 x0 3)) ((dc_wi (dc_wi (dc_wi (dc_wi m (x0 + 3) (Int32.toNatClampNeg (m.1 x0 3)) (m.1 x0 0)) (x0 + 4) (Int32.toNatClampNeg (m.1 x0 3)) x2) (x0 + 5) (Int32.toNatClampNeg (m.1 x0 3)) (0 : Int32)) (x0 + 6) (Int32.toNatClampNeg (m.1 x0 3)) ((1 : Int32) <<< (((dc_wi (dc_wi (dc_wi m (x0 + 3) (Int32.toNatClampNeg (m.1 x0 3)) (m.1 x0 0)) (x0 + 4) (Int32.toNatClampNeg (m.1 x0 3)) x2) (x0 + 5) (Int32.toNatClampNeg (m.1 x0 3)) (0 : Int32)).1 x0 10) &&& 31))).1 (x0 + 7) (Int32.toNatClampNeg x1))).1 x0 10) &&& 31))) (x0 + 8) (Int32.toNatClampNeg (m.1 x0 3)) (1 : Int32)).1 x0 10) + (1 : Int32))).1 x0 3) + (1 : Int32)), .ref x0] rfl (fun _ => rfl) rfl ?_
  refine dg_m (pc' := 92) (dc_wi (dc_wi (dc_wi (dc_wi (dc_wi (dc_wi (dc_wi (dc_wi (dc_wi m (x0 + 3) (Int32.toNatClampNeg (m.1 x0 3)) (m.1 x0 0)) (x0 + 4) (Int32.toNatClampNeg (m.1 x0 3)) x2) (x0 + 5) (Int32.toNatClampNeg (m.1 x0 3)) (0 : Int32)) (x0 + 6) (Int32.toNatClampNeg (m.1 x0 3)) ((1 : Int32) <<< (((dc_wi (dc_wi (dc_wi m (x0 + 3) (Int32.toNatClampNeg (m.1 x0 3)) (m.1 x0 0)) (x0 + 4) (Int32.toNatClampNeg (m.1 x0 3)) x2) (x0 + 5) (Int32.toNatClampNeg (m.1 x0 3)) (0 : Int32)).1 x0 10) &&& 31))) (x0 + 7) (Int32.toNatClampNeg (m.1 x0 3)) ((dc_wi (dc_wi (dc_wi (dc_wi m (x0 + 3) (Int32.toNatClampNeg (m.1 x0 3)) (m.1 x0 0)) (x0 + 4) (Int32.toNatClampNeg (m.1 x0 3)) x2) (x0 + 5) (Int32.toNatClampNeg (m.1 x0 3)) (0 : Int32)) (x0 + 6) (Int32.toNatClampNeg (m.1 x0 3)) ((1 : Int32) <<< (((dc_wi (dc_wi (dc_wi m (x0 + 3) (Int32.toNatClampNeg (m.1 x0 3)) (m.1 x0 0)) (x0 + 4) (Int32.toNatClampNeg (m.1 x0 3)) x2) (x0 + 5) (Int32.toNatClampNeg (m.1 x0 3)) (0 : Int32)).1 x0 10) &&& 31))).1 (x0 + 7) (Int32.toNatClampNeg x1))) (x0 + 7) (Int32.toNatClampNeg x1) ((1 : Int32) <<< (((dc_wi (dc_wi (dc_wi (dc_wi (dc_wi m (x0 + 3) (Int32.toNatClampNeg (m.1 x0 3)) (m.1 x0 0)) (x0 + 4) (Int32.toNatClampNeg (m.1 x0 3)) x2) (x0 + 5) (Int32.toNatClampNeg (m.1 x0 3)) (0 : Int32)) (x0 + 6) (Int32.toNatClampNeg (m.1 x0 3)) ((1 : Int32) <<< (((dc_wi (dc_wi (dc_wi m (x0 + 3) (Int32.toNatClampNeg (m.1 x0 3)) (m.1 x0 0)) (x0 + 4) (Int32.toNatClampNeg (m.1 x0 3)) x2) (x0 + 5) (Int32.toNatClampNeg (m.1 x0 3)) (0 : Int32)).1 x0 10) &&& 31))) (x0 + 7) (Int32.toNatClampNeg (m.1 x0 3)) ((dc_wi (dc_wi (dc_wi (dc_wi m (x0 + 3) (Int32.toNatClampNeg (m.1 x0 3)) (m.1 x0 0)) (x0 + 4) (Int32.toNatClampNeg (m.1 x0 3)) x2) (x0 + 5) (Int32.toNatClampNeg (m.1 x0 3)) (0 : Int32)) (x0 + 6) (Int32.toNatClampNeg (m.1 x0 3)) ((1 : Int32) <<< (((dc_wi (dc_wi (dc_wi m (x0 + 3) (Int32.toNatClampNeg (m.1 x0 3)) (m.1 x0 0)) (x0 + 4) (Int32.toNatClampNeg (m.1 x0 3)) x2) (x0 + 5) (Int32.toNatClampNeg (m.1 x0 3)) (0 : Int32)).1 x0 10) &&& 31))).1 (x0 + 7) (Int32.toNatClampNeg x1))).1 x0 10) &&& 31))) (x0 + 8) (Int32.toNatClampNeg (m.1 x0 3)) (1 : Int32)) x0 10 (((dc_wi (dc_wi (dc_wi (dc_wi (dc_wi (dc_wi (dc_wi m (x0 + 3) (Int32.toNatClampNeg (m.1 x0 3)) (m.1 x0 0)) (x0 + 4) (Int32.toNatClampNeg (m.1 x0 3)) x2) (x0 + 5) (Int32.toNatClampNeg (m.1 x0 3)) (0 : Int32)) (x0 + 6) (Int32.toNatClampNeg (m.1 x0 3)) ((1 : Int32) <<< (((dc_wi (dc_wi (dc_wi m (x0 + 3) (Int32.toNatClampNeg (m.1 x0 3)) (m.1 x0 0)) (x0 + 4) (Int32.toNatClampNeg (m.1 x0 3)) x2) (x0 + 5) (Int32.toNatClampNeg (m.1 x0 3)) (0 : Int32)).1 x0 10) &&& 31))) (x0 + 7) (Int32.toNatClampNeg (m.1 x0 3)) ((dc_wi (dc_wi (dc_wi (dc_wi m (x0 + 3) (Int32.toNatClampNeg (m.1 x0 3)) (m.1 x0 0)) (x0 + 4) (Int32.toNatClampNeg (m.1 x0 3)) x2) (x0 + 5) (Int32.toNatClampNeg (m.1 x0 3)) (0 : Int32)) (x0 + 6) (Int32.toNatClampNeg (m.1 x0 3)) ((1 : Int32) <<< (((dc_wi (dc_wi (dc_wi m (x0 + 3) (Int32.toNatClampNeg (m.1 x0 3)) (m.1 x0 0)) (x0 + 4) (Int32.toNatClampNeg (m.1 x0 3)) x2) (x0 + 5) (Int32.toNatClampNeg (m.1 x0 3)) (0 : Int32)).1 x0 10) &&& 31))).1 (x0 + 7) (Int32.toNatClampNeg x1))) (x0 + 7) (Int32.toNatClampNeg x1) ((1 : Int32) <<< (((dc_wi (dc_wi (dc_wi (dc_wi (dc_wi m (x0 + 3) (Int32.toNatClampNeg (m.1 x0 3)) (m.1 x0 0)) (x0 + 4) (Int32.toNatClampNeg (m.1 x0 3)) x2) (x0 + 5) (Int32.toNatClampNeg (m.1 x0 3)) (0 : Int32)) (x0 + 6) (Int32.toNatClampNeg (m.1 x0 3)) ((1 : Int32) <<< (((dc_wi (dc_wi (dc_wi m (x0 + 3) (Int32.toNatClampNeg (m.1 x0 3)) (m.1 x0 0)) (x0 + 4) (Int32.toNatClampNeg (m.1 x0 3)) x2) (x0 + 5) (Int32.toNatClampNeg (m.1 x0 3)) (0 : Int32)).1 x0 10) &&& 31))) (x0 + 7) (Int32.toNatClampNeg (m.1 x0 3)) ((dc_wi (dc_wi (dc_wi (dc_wi m (x0 + 3) (Int32.toNatClampNeg (m.1 x0 3)) (m.1 x0 0)) (x0 + 4) (Int32.toNatClampNeg (m.1 x0 3)) x2) (x0 + 5) (Int32.toNatClampNeg (m.1 x0 3)) (0 : Int32)) (x0 + 6) (Int32.toNatClampNeg (m.1 x0 3)) ((1 : Int32) <<< (((dc_wi (dc_wi (dc_wi m (x0 + 3) (Int32.toNatClampNeg (m.1 x0 3)) (m.1 x0 0)) (x0 + 4) (Int32.toNatClampNeg (m.1 x0 3)) x2) (x0 + 5) (Int32.toNatClampNeg (m.1 x0 3)) (0 : Int32)).1 x0 10) &&& 31))).1 (x0 + 7) (Int32.toNatClampNeg x1))).1 x0 10) &&& 31))) (x0 + 8) (Int32.toNatClampNeg (m.1 x0 3)) (1 : Int32)).1 x0 10) + (1 : Int32))) x0 3 (((dc_wi (dc_wi (dc_wi (dc_wi (dc_wi (dc_wi (dc_wi (dc_wi m (x0 + 3) (Int32.toNatClampNeg (m.1 x0 3)) (m.1 x0 0)) (x0 + 4) (Int32.toNatClampNeg (m.1 x0 3)) x2) (x0 + 5) (Int32.toNatClampNeg (m.1 x0 3)) (0 : Int32)) (x0 + 6) (Int32.toNatClampNeg (m.1 x0 3)) ((1 : Int32) <<< (((dc_wi (dc_wi (dc_wi m (x0 + 3) (Int32.toNatClampNeg (m.1 x0 3)) (m.1 x0 0)) (x0 + 4) (Int32.toNatClampNeg (m.1 x0 3)) x2) (x0 + 5) (Int32.toNatClampNeg (m.1 x0 3)) (0 : Int32)).1 x0 10) &&& 31))) (x0 + 7) (Int32.toNatClampNeg (m.1 x0 3)) ((dc_wi (dc_wi (dc_wi (dc_wi m (x0 + 3) (Int32.toNatClampNeg (m.1 x0 3)) (m.1 x0 0)) (x0 + 4) (Int32.toNatClampNeg (m.1 x0 3)) x2) (x0 + 5) (Int32.toNatClampNeg (m.1 x0 3)) (0 : Int32)) (x0 + 6) (Int32.toNatClampNeg (m.1 x0 3)) ((1 : Int32) <<< (((dc_wi (dc_wi (dc_wi m (x0 + 3) (Int32.toNatClampNeg (m.1 x0 3)) (m.1 x0 0)) (x0 + 4) (Int32.toNatClampNeg (m.1 x0 3)) x2) (x0 + 5) (Int32.toNatClampNeg (m.1 x0 3)) (0 : Int32)).1 x0 10) &&& 31))).1 (x0 + 7) (Int32.toNatClampNeg x1))) (x0 + 7) (Int32.toNatClampNeg x1) ((1 : Int32) <<< (((dc_wi (dc_wi (dc_wi (dc_wi (dc_wi m (x0 + 3) (Int32.toNatClampNeg (m.1 x0 3)) (m.1 x0 0)) (x0 + 4) (Int32.toNatClampNeg (m.1 x0 3)) x2) (x0 + 5) (Int32.toNatClampNeg (m.1 x0 3)) (0 : Int32)) (x0 + 6) (Int32.toNatClampNeg (m.1 x0 3)) ((1 : Int32) <<< (((dc_wi (dc_wi (dc_wi m (x0 + 3) (Int32.toNatClampNeg (m.1 x0 3)) (m.1 x0 0)) (x0 + 4) (Int32.toNatClampNeg (m.1 x0 3)) x2) (x0 + 5) (Int32.toNatClampNeg (m.1 x0 3)) (0 : Int32)).1 x0 10) &&& 31))) (x0 + 7) (Int32.toNatClampNeg (m.1 x0 3)) ((dc_wi (dc_wi (dc_wi (dc_wi m (x0 + 3) (Int32.toNatClampNeg (m.1 x0 3)) (m.1 x0 0)) (x0 + 4) (Int32.toNatClampNeg (m.1 x0 3)) x2) (x0 + 5) (Int32.toNatClampNeg (m.1 x0 3)) (0 : Int32)) (x0 + 6) (Int32.toNatClampNeg (m.1 x0 3)) ((1 : Int32) <<< (((dc_wi (dc_wi (dc_wi m (x0 + 3) (Int32.toNatClampNeg (m.1 x0 3)) (m.1 x0 0)) (x0 + 4) (Int32.toNatClampNeg (m.1 x0 3)) x2) (x0 + 5) (Int32.toNatClampNeg (m.1 x0 3)) (0 : Int32)).1 x0 10) &&& 31))).1 (x0 + 7) (Int32.toNatClampNeg x1))).1 x0 10) &&& 31))) (x0 + 8) (Int32.toNatClampNeg (m.1 x0 3)) (1 : Int32)) x0 10 (((dc_wi (dc_wi (dc_wi (dc_wi (dc_wi (dc_wi (dc_wi m (x0 + 3) (Int32.toNatClampNeg (m.1 x0 3)) (m.1 x0 0)) (x0 + 4) (Int32.toNatClampNeg (m.1 x0 3)) x2) (x0 + 5) (Int32.toNatClampNeg (m.1 x0 3)) (0 : Int32)) (x0 + 6) (Int32.toNatClampNeg (m.1 x0 3)) ((1 : Int32) <<< (((dc_wi (dc_wi (dc_wi m (x0 + 3) (Int32.toNatClampNeg (m.1 x0 3)) (m.1 x0 0)) (x0 + 4) (Int32.toNatClampNeg (m.1 x0 3)) x2) (x0 + 5) (Int32.toNatClampNeg (m.1 x0 3)) (0 : Int32)).1 x0 10) &&& 31))) (x0 + 7) (Int32.toNatClampNeg (m.1 x0 3)) ((dc_wi (dc_wi (dc_wi (dc_wi m (x0 + 3) (Int32.toNatClampNeg (m.1 x0 3)) (m.1 x0 0)) (x0 + 4) (Int32.toNatClampNeg (m.1 x0 3)) x2) (x0 + 5) (Int32.toNatClampNeg (m.1 x0 3)) (0 : Int32)) (x0 + 6) (Int32.toNatClampNeg (m.1 x0 3)) ((1 : Int32) <<< (((dc_wi (dc_wi (dc_wi m (x0 + 3) (Int32.toNatClampNeg (m.1 x0 3)) (m.1 x0 0)) (x0 + 4) (Int32.toNatClampNeg (m.1 x0 3)) x2) (x0 + 5) (Int32.toNatClampNeg (m.1 x0 3)) (0 : Int32)).1 x0 10) &&& 31))).1 (x0 + 7) (Int32.toNatClampNeg x1))) (x0 + 7) (Int32.toNatClampNeg x1) ((1 : Int32) <<< (((dc_wi (dc_wi (dc_wi (dc_wi (dc_wi m (x0 + 3) (Int32.toNatClampNeg (m.1 x0 3)) (m.1 x0 0)) (x0 + 4) (Int32.toNatClampNeg (m.1 x0 3)) x2) (x0 + 5) (Int32.toNatClampNeg (m.1 x0 3)) (0 : Int32)) (x0 + 6) (Int32.toNatClampNeg (m.1 x0 3)) ((1 : Int32) <<< (((dc_wi (dc_wi (dc_wi m (x0 + 3) (Int32.toNatClampNeg (m.1 x0 3)) (m.1 x0 0)) (x0 + 4) (Int32.toNatClampNeg (m.1 x0 3)) x2) (x0 + 5) (Int32.toNatClampNeg (m.1 x0 3)) (0 : Int32)).1 x0 10) &&& 31))) (x0 + 7) (Int32.toNatClampNeg (m.1 x0 3)) ((dc_wi (dc_wi (dc_wi (dc_wi m (x0 + 3) (Int32.toNatClampNeg (m.1 x0 3)) (m.1 x0 0)) (x0 + 4) (Int32.toNatClampNeg (m.1 x0 3)) x2) (x0 + 5) (Int32.toNatClampNeg (m.1 x0 3)) (0 : Int32)) (x0 + 6) (Int32.toNatClampNeg (m.1 x0 3)) ((1 : Int32) <<< (((dc_wi (dc_wi (dc_wi m (x0 + 3) (Int32.toNatClampNeg (m.1 x0 3)) (m.1 x0 0)) (x0 + 4) (Int32.toNatClampNeg (m.1 x0 3)) x2) (x0 + 5) (Int32.toNatClampNeg (m.1 x0 3)) (0 : Int32)).1 x0 10) &&& 31))).1 (x0 + 7) (Int32.toNatClampNeg x1))).1 x0 10) &&& 31))) (x0 + 8) (Int32.toNatClampNeg (m.1 x0 3)) (1 : Int32)).1 x0 10) + (1 : Int32))).1 x0 3) + (1 : Int32))) [] rfl (fun _ => rfl) rfl ?_
  exact dw_r (some (.inl (none, (dc_wi (dc_wi (dc_wi (dc_wi (dc_wi (dc_wi (dc_wi (dc_wi (dc_wi m (x0 + 3) (Int32.toNatClampNeg (m.1 x0 3)) (m.1 x0 0)) (x0 + 4) (Int32.toNatClampNeg (m.1 x0 3)) x2) (x0 + 5) (Int32.toNatClampNeg (m.1 x0 3)) (0 : Int32)) (x0 + 6) (Int32.toNatClampNeg (m.1 x0 3)) ((1 : Int32) <<< (((dc_wi (dc_wi (dc_wi m (x0 + 3) (Int32.toNatClampNeg (m.1 x0 3)) (m.1 x0 0)) (x0 + 4) (Int32.toNatClampNeg (m.1 x0 3)) x2) (x0 + 5) (Int32.toNatClampNeg (m.1 x0 3)) (0 : Int32)).1 x0 10) &&& 31))) (x0 + 7) (Int32.toNatClampNeg (m.1 x0 3)) ((dc_wi (dc_wi (dc_wi (dc_wi m (x0 + 3) (Int32.toNatClampNeg (m.1 x0 3)) (m.1 x0 0)) (x0 + 4) (Int32.toNatClampNeg (m.1 x0 3)) x2) (x0 + 5) (Int32.toNatClampNeg (m.1 x0 3)) (0 : Int32)) (x0 + 6) (Int32.toNatClampNeg (m.1 x0 3)) ((1 : Int32) <<< (((dc_wi (dc_wi (dc_wi m (x0 + 3) (Int32.toNatClampNeg (m.1 x0 3)) (m.1 x0 0)) (x0 + 4) (Int32.toNatClampNeg (m.1 x0 3)) x2) (x0 + 5) (Int32.toNatClampNeg (m.1 x0 3)) (0 : Int32)).1 x0 10) &&& 31))).1 (x0 + 7) (Int32.toNatClampNeg x1))) (x0 + 7) (Int32.toNatClampNeg x1) ((1 : Int32) <<< (((dc_wi (dc_wi (dc_wi (dc_wi (dc_wi m (x0 + 3) (Int32.toNatClampNeg (m.1 x0 3)) (m.1 x0 0)) (x0 + 4) (Int32.toNatClampNeg (m.1 x0 3)) x2) (x0 + 5) (Int32.toNatClampNeg (m.1 x0 3)) (0 : Int32)) (x0 + 6) (Int32.toNatClampNeg (m.1 x0 3)) ((1 : Int32) <<< (((dc_wi (dc_wi (dc_wi m (x0 + 3) (Int32.toNatClampNeg (m.1 x0 3)) (m.1 x0 0)) (x0 + 4) (Int32.toNatClampNeg (m.1 x0 3)) x2) (x0 + 5) (Int32.toNatClampNeg (m.1 x0 3)) (0 : Int32)).1 x0 10) &&& 31))) (x0 + 7) (Int32.toNatClampNeg (m.1 x0 3)) ((dc_wi (dc_wi (dc_wi (dc_wi m (x0 + 3) (Int32.toNatClampNeg (m.1 x0 3)) (m.1 x0 0)) (x0 + 4) (Int32.toNatClampNeg (m.1 x0 3)) x2) (x0 + 5) (Int32.toNatClampNeg (m.1 x0 3)) (0 : Int32)) (x0 + 6) (Int32.toNatClampNeg (m.1 x0 3)) ((1 : Int32) <<< (((dc_wi (dc_wi (dc_wi m (x0 + 3) (Int32.toNatClampNeg (m.1 x0 3)) (m.1 x0 0)) (x0 + 4) (Int32.toNatClampNeg (m.1 x0 3)) x2) (x0 + 5) (Int32.toNatClampNeg (m.1 x0 3)) (0 : Int32)).1 x0 10) &&& 31))).1 (x0 + 7) (Int32.toNatClampNeg x1))).1 x0 10) &&& 31))) (x0 + 8) (Int32.toNatClampNeg (m.1 x0 3)) (1 : Int32)) x0 10 (((dc_wi (dc_wi (dc_wi (dc_wi (dc_wi (dc_wi (dc_wi m (x0 + 3) (Int32.toNatClampNeg (m.1 x0 3)) (m.1 x0 0)) (x0 + 4) (Int32.toNatClampNeg (m.1 x0 3)) x2) (x0 + 5) (Int32.toNatClampNeg (m.1 x0 3)) (0 : Int32)) (x0 + 6) (Int32.toNatClampNeg (m.1 x0 3)) ((1 : Int32) <<< (((dc_wi (dc_wi (dc_wi m (x0 + 3) (Int32.toNatClampNeg (m.1 x0 3)) (m.1 x0 0)) (x0 + 4) (Int32.toNatClampNeg (m.1 x0 3)) x2) (x0 + 5) (Int32.toNatClampNeg (m.1 x0 3)) (0 : Int32)).1 x0 10) &&& 31))) (x0 + 7) (Int32.toNatClampNeg (m.1 x0 3)) ((dc_wi (dc_wi (dc_wi (dc_wi m (x0 + 3) (Int32.toNatClampNeg (m.1 x0 3)) (m.1 x0 0)) (x0 + 4) (Int32.toNatClampNeg (m.1 x0 3)) x2) (x0 + 5) (Int32.toNatClampNeg (m.1 x0 3)) (0 : Int32)) (x0 + 6) (Int32.toNatClampNeg (m.1 x0 3)) ((1 : Int32) <<< (((dc_wi (dc_wi (dc_wi m (x0 + 3) (Int32.toNatClampNeg (m.1 x0 3)) (m.1 x0 0)) (x0 + 4) (Int32.toNatClampNeg (m.1 x0 3)) x2) (x0 + 5) (Int32.toNatClampNeg (m.1 x0 3)) (0 : Int32)).1 x0 10) &&& 31))).1 (x0 + 7) (Int32.toNatClampNeg x1))) (x0 + 7) (Int32.toNatClampNeg x1) ((1 : Int32) <<< (((dc_wi (dc_wi (dc_wi (dc_wi (dc_wi m (x0 + 3) (Int32.toNatClampNeg (m.1 x0 3)) (m.1 x0 0)) (x0 + 4) (Int32.toNatClampNeg (m.1 x0 3)) x2) (x0 + 5) (Int32.toNatClampNeg (m.1 x0 3)) (0 : Int32)) (x0 + 6) (Int32.toNatClampNeg (m.1 x0 3)) ((1 : Int32) <<< (((dc_wi (dc_wi (dc_wi m (x0 + 3) (Int32.toNatClampNeg (m.1 x0 3)) (m.1 x0 0)) (x0 + 4) (Int32.toNatClampNeg (m.1 x0 3)) x2) (x0 + 5) (Int32.toNatClampNeg (m.1 x0 3)) (0 : Int32)).1 x0 10) &&& 31))) (x0 + 7) (Int32.toNatClampNeg (m.1 x0 3)) ((dc_wi (dc_wi (dc_wi (dc_wi m (x0 + 3) (Int32.toNatClampNeg (m.1 x0 3)) (m.1 x0 0)) (x0 + 4) (Int32.toNatClampNeg (m.1 x0 3)) x2) (x0 + 5) (Int32.toNatClampNeg (m.1 x0 3)) (0 : Int32)) (x0 + 6) (Int32.toNatClampNeg (m.1 x0 3)) ((1 : Int32) <<< (((dc_wi (dc_wi (dc_wi m (x0 + 3) (Int32.toNatClampNeg (m.1 x0 3)) (m.1 x0 0)) (x0 + 4) (Int32.toNatClampNeg (m.1 x0 3)) x2) (x0 + 5) (Int32.toNatClampNeg (m.1 x0 3)) (0 : Int32)).1 x0 10) &&& 31))).1 (x0 + 7) (Int32.toNatClampNeg x1))).1 x0 10) &&& 31))) (x0 + 8) (Int32.toNatClampNeg (m.1 x0 3)) (1 : Int32)).1 x0 10) + (1 : Int32))) x0 3 (((dc_wi (dc_wi (dc_wi (dc_wi (dc_wi (dc_wi (dc_wi (dc_wi m (x0 + 3) (Int32.toNatClampNeg (m.1 x0 3)) (m.1 x0 0)) (x0 + 4) (Int32.toNatClampNeg (m.1 x0 3)) x2) (x0 + 5) (Int32.toNatClampNeg (m.1 x0 3)) (0 : Int32)) (x0 + 6) (Int32.toNatClampNeg (m.1 x0 3)) ((1 : Int32) <<< (((dc_wi (dc_wi (dc_wi m (x0 + 3) (Int32.toNatClampNeg (m.1 x0 3)) (m.1 x0 0)) (x0 + 4) (Int32.toNatClampNeg (m.1 x0 3)) x2) (x0 + 5) (Int32.toNatClampNeg (m.1 x0 3)) (0 : Int32)).1 x0 10) &&& 31))) (x0 + 7) (Int32.toNatClampNeg (m.1 x0 3)) ((dc_wi (dc_wi (dc_wi (dc_wi m (x0 + 3) (Int32.toNatClampNeg (m.1 x0 3)) (m.1 x0 0)) (x0 + 4) (Int32.toNatClampNeg (m.1 x0 3)) x2) (x0 + 5) (Int32.toNatClampNeg (m.1 x0 3)) (0 : Int32)) (x0 + 6) (Int32.toNatClampNeg (m.1 x0 3)) ((1 : Int32) <<< (((dc_wi (dc_wi (dc_wi m (x0 + 3) (Int32.toNatClampNeg (m.1 x0 3)) (m.1 x0 0)) (x0 + 4) (Int32.toNatClampNeg (m.1 x0 3)) x2) (x0 + 5) (Int32.toNatClampNeg (m.1 x0 3)) (0 : Int32)).1 x0 10) &&& 31))).1 (x0 + 7) (Int32.toNatClampNeg x1))) (x0 + 7) (Int32.toNatClampNeg x1) ((1 : Int32) <<< (((dc_wi (dc_wi (dc_wi (dc_wi (dc_wi m (x0 + 3) (Int32.toNatClampNeg (m.1 x0 3)) (m.1 x0 0)) (x0 + 4) (Int32.toNatClampNeg (m.1 x0 3)) x2) (x0 + 5) (Int32.toNatClampNeg (m.1 x0 3)) (0 : Int32)) (x0 + 6) (Int32.toNatClampNeg (m.1 x0 3)) ((1 : Int32) <<< (((dc_wi (dc_wi (dc_wi m (x0 + 3) (Int32.toNatClampNeg (m.1 x0 3)) (m.1 x0 0)) (x0 + 4) (Int32.toNatClampNeg (m.1 x0 3)) x2) (x0 + 5) (Int32.toNatClampNeg (m.1 x0 3)) (0 : Int32)).1 x0 10) &&& 31))) (x0 + 7) (Int32.toNatClampNeg (m.1 x0 3)) ((dc_wi (dc_wi (dc_wi (dc_wi m (x0 + 3) (Int32.toNatClampNeg (m.1 x0 3)) (m.1 x0 0)) (x0 + 4) (Int32.toNatClampNeg (m.1 x0 3)) x2) (x0 + 5) (Int32.toNatClampNeg (m.1 x0 3)) (0 : Int32)) (x0 + 6) (Int32.toNatClampNeg (m.1 x0 3)) ((1 : Int32) <<< (((dc_wi (dc_wi (dc_wi m (x0 + 3) (Int32.toNatClampNeg (m.1 x0 3)) (m.1 x0 0)) (x0 + 4) (Int32.toNatClampNeg (m.1 x0 3)) x2) (x0 + 5) (Int32.toNatClampNeg (m.1 x0 3)) (0 : Int32)).1 x0 10) &&& 31))).1 (x0 + 7) (Int32.toNatClampNeg x1))).1 x0 10) &&& 31))) (x0 + 8) (Int32.toNatClampNeg (m.1 x0 3)) (1 : Int32)) x0 10 (((dc_wi (dc_wi (dc_wi (dc_wi (dc_wi (dc_wi (dc_wi m (x0 + 3) (Int32.toNatClampNeg (m.1 x0 3)) (m.1 x0 0)) (x0 + 4) (Int32.toNatClampNeg (m.1 x0 3)) x2) (x0 + 5) (Int32.toNatClampNeg (m.1 x0 3)) (0 : Int32)) (x0 + 6) (Int32.toNatClampNeg (m.1 x0 3)) ((1 : Int32) <<< (((dc_wi (dc_wi (dc_wi m (x0 + 3) (Int32.toNatClampNeg (m.1 x0 3)) (m.1 x0 0)) (x0 + 4) (Int32.toNatClampNeg (m.1 x0 3)) x2) (x0 + 5) (Int32.toNatClampNeg (m.1 x0 3)) (0 : Int32)).1 x0 10) &&& 31))) (x0 + 7) (Int32.toNatClampNeg (m.1 x0 3)) ((dc_wi (dc_wi (dc_wi (dc_wi m (x0 + 3) (Int32.toNatClampNeg (m.1 x0 3)) (m.1 x0 0)) (x0 + 4) (Int32.toNatClampNeg (m.1 x0 3)) x2) (x0 + 5) (Int32.toNatClampNeg (m.1 x0 3)) (0 : Int32)) (x0 + 6) (Int32.toNatClampNeg (m.1 x0 3)) ((1 : Int32) <<< (((dc_wi (dc_wi (dc_wi m (x0 + 3) (Int32.toNatClampNeg (m.1 x0 3)) (m.1 x0 0)) (x0 + 4) (Int32.toNatClampNeg (m.1 x0 3)) x2) (x0 + 5) (Int32.toNatClampNeg (m.1 x0 3)) (0 : Int32)).1 x0 10) &&& 31))).1 (x0 + 7) (Int32.toNatClampNeg x1))) (x0 + 7) (Int32.toNatClampNeg x1) ((1 : Int32) <<< (((dc_wi (dc_wi (dc_wi (dc_wi (dc_wi m (x0 + 3) (Int32.toNatClampNeg (m.1 x0 3)) (m.1 x0 0)) (x0 + 4) (Int32.toNatClampNeg (m.1 x0 3)) x2) (x0 + 5) (Int32.toNatClampNeg (m.1 x0 3)) (0 : Int32)) (x0 + 6) (Int32.toNatClampNeg (m.1 x0 3)) ((1 : Int32) <<< (((dc_wi (dc_wi (dc_wi m (x0 + 3) (Int32.toNatClampNeg (m.1 x0 3)) (m.1 x0 0)) (x0 + 4) (Int32.toNatClampNeg (m.1 x0 3)) x2) (x0 + 5) (Int32.toNatClampNeg (m.1 x0 3)) (0 : Int32)).1 x0 10) &&& 31))) (x0 + 7) (Int32.toNatClampNeg (m.1 x0 3)) ((dc_wi (dc_wi (dc_wi (dc_wi m (x0 + 3) (Int32.toNatClampNeg (m.1 x0 3)) (m.1 x0 0)) (x0 + 4) (Int32.toNatClampNeg (m.1 x0 3)) x2) (x0 + 5) (Int32.toNatClampNeg (m.1 x0 3)) (0 : Int32)) (x0 + 6) (Int32.toNatClampNeg (m.1 x0 3)) ((1 : Int32) <<< (((dc_wi (dc_wi (dc_wi m (x0 + 3) (Int32.toNatClampNeg (m.1 x0 3)) (m.1 x0 0)) (x0 + 4) (Int32.toNatClampNeg (m.1 x0 3)) x2) (x0 + 5) (Int32.toNatClampNeg (m.1 x0 3)) (0 : Int32)).1 x0 10) &&& 31))).1 (x0 + 7) (Int32.toNatClampNeg x1))).1 x0 10) &&& 31))) (x0 + 8) (Int32.toNatClampNeg (m.1 x0 3)) (1 : Int32)).1 x0 10) + (1 : Int32))).1 x0 3) + (1 : Int32)))))) rfl (fun _ => rfl) (kR _)
def H_X10_addEvent : dc_H := fun As m k => match As with
  | [.ref x0, .int x1, .int x2] => dc_let (d_X10_addEvent x0 x1 x2 m) (fun q => k (none) q)
  | _ => dc_kz
theorem H_X10_addEvent_ok {u : Nat} : dc_cok u 204 H_X10_addEvent := fun M' hG N As m k P hz hP => by
  obtain rfl : ab_M_X10_addEvent = M' := Option.some.inj hG
  unfold H_X10_addEvent at hP
  split at hP
  · rename_i x0 x1 x2
    exact dc_pv.imp (k_X10_addEvent (Φ := fun (t : dc_M) r m' => P (dc_let t (fun q => k (none) q)) → P (k r m')) x0 x1 x2 m (fun _ h => h) rfl rfl rfl) (fun r m' h => h hP)
  · exact absurd hP hz
