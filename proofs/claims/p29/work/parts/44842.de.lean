/-! ===== methods as functions (written by a program) ===== -/
def C_X3_addPlace : List (Nat × dc_H) := []
theorem CO_X3_addPlace {u : Nat} : dc_CO u C_X3_addPlace := dc_CO_nil
def S_X3_addPlace : List (Nat × List Nat) := [(56, [0, 1, 2, 4, 5]), (88, [0, 1, 2, 4, 5])]
noncomputable def d_X3_addPlace_b88 (x0 : Nat) (x1 : Int32) (x2 : Int32) (x4 : Int32) (x5 : Int32) (s0 : Int32) (s1 : Int32) (s2 : Int32) (s3 : Nat) (m : dc_M) : Option ((Int32 × dc_M) ⊕ dc_M) :=
  (if (Int32.toInt ((x2 >>> (x5 &&& 31)) &&& (1 : Int32))) = 0 then some (Sum.inl ((x5 + (1 : Int32)), (dc_wi (dc_wi m s3 (Int32.toNatClampNeg s2) (s1 ||| s0)) (x0 + 6) (Int32.toNatClampNeg x5) (((dc_wi m s3 (Int32.toNatClampNeg s2) (s1 ||| s0)).1 (x0 + 6) (Int32.toNatClampNeg x5)) ||| (0 : Int32))))) else some (Sum.inl ((x5 + (1 : Int32)), (dc_wi (dc_wi m s3 (Int32.toNatClampNeg s2) (s1 ||| s0)) (x0 + 6) (Int32.toNatClampNeg x5) (((dc_wi m s3 (Int32.toNatClampNeg s2) (s1 ||| s0)).1 (x0 + 6) (Int32.toNatClampNeg x5)) ||| x4)))))
set_option maxHeartbeats 8000000 in
theorem k_X3_addPlace_b88 {u : Nat} {N : Nat} {Φ : (Option ((Int32 × dc_M) ⊕ dc_M)) → Option Value → dc_M → Prop} (x0 : Nat) (x1 : Int32) (x2 : Int32) (x4 : Int32) (x5 : Int32) (s0 : Int32) (s1 : Int32) (s2 : Int32) (s3 : Nat) (m : dc_M) (kR : ∀  (m : dc_M), Φ (some (Sum.inr (m))) (none) m) (k56 : ∀ (x5 : Int32) (m : dc_M) (lv : ab_L), ab_lk lv 0 = some (.ref x0) → ab_lk lv 1 = some (.int x1) → ab_lk lv 2 = some (.int x2) → ab_lk lv 4 = some (.int x4) → ab_lk lv 5 = some (.int x5) →  dc_pv u N ab_M_X3_addPlace 56 lv [] m (Φ (some (Sum.inl (x5, m))))) {lv : ab_L} (f0 : ab_lk lv 0 = some (.ref x0)) (f1 : ab_lk lv 1 = some (.int x1)) (f2 : ab_lk lv 2 = some (.int x2)) (f4 : ab_lk lv 4 = some (.int x4)) (f5 : ab_lk lv 5 = some (.int x5)) : dc_pv u N ab_M_X3_addPlace 88 lv [.int s0, .int s1, .int s2, .ref s3] m (Φ (d_X3_addPlace_b88 x0 x1 x2 x4 x5 s0 s1 s2 s3 m)) := by
  refine dc_pv.mono (dc_ok (C := C_X3_addPlace) (S := S_X3_addPlace) CO_X3_addPlace 400 88 [(0, .ref x0), (1, .int x1), (2, .int x2), (4, .int x4), (5, .int x5)] lv [.int s0, .int s1, .int s2, .ref s3] m (dc_sub_cons f0 (dc_sub_cons f1 (dc_sub_cons f2 (dc_sub_cons f4 (dc_sub_cons f5 (dc_sub_nil)))))) ?_) (Nat.le_succ N)
  unfold d_X3_addPlace_b88
  refine dg_s (pc' := 89) [.int (s1 ||| s0), .int s2, .ref s3] rfl (fun _ => rfl) rfl ?_
  refine dg_m (pc' := 90) (dc_wi m s3 (Int32.toNatClampNeg s2) (s1 ||| s0)) [] rfl (fun _ => rfl) rfl ?_
  refine dg_s (pc' := 91) [.ref x0] rfl (fun _ => rfl) rfl ?_
  refine dg_s (pc' := 94) [.ref (x0 + 6)] rfl (fun _ => rfl) rfl ?_
  refine dg_s (pc' := 96) [.int x5, .ref (x0 + 6)] rfl (fun _ => rfl) rfl ?_
  refine dg_s (pc' := 97) [.int x5, .ref (x0 + 6), .int x5, .ref (x0 + 6)] rfl (fun _ => rfl) rfl ?_
  refine dg_s (pc' := 98) [.int ((dc_wi m s3 (Int32.toNatClampNeg s2) (s1 ||| s0)).1 (x0 + 6) (Int32.toNatClampNeg x5)), .int x5, .ref (x0 + 6)] rfl (fun _ => rfl) rfl ?_
  refine dg_s (pc' := 99) [.int x2, .int ((dc_wi m s3 (Int32.toNatClampNeg s2) (s1 ||| s0)).1 (x0 + 6) (Int32.toNatClampNeg x5)), .int x5, .ref (x0 + 6)] rfl (fun _ => rfl) rfl ?_
  refine dg_s (pc' := 101) [.int x5, .int x2, .int ((dc_wi m s3 (Int32.toNatClampNeg s2) (s1 ||| s0)).1 (x0 + 6) (Int32.toNatClampNeg x5)), .int x5, .ref (x0 + 6)] rfl (fun _ => rfl) rfl ?_
  refine dg_s (pc' := 102) [.int (x2 >>> (x5 &&& 31)), .int ((dc_wi m s3 (Int32.toNatClampNeg s2) (s1 ||| s0)).1 (x0 + 6) (Int32.toNatClampNeg x5)), .int x5, .ref (x0 + 6)] rfl (fun _ => rfl) rfl ?_
  refine dg_s (pc' := 103) [.int (1 : Int32), .int (x2 >>> (x5 &&& 31)), .int ((dc_wi m s3 (Int32.toNatClampNeg s2) (s1 ||| s0)).1 (x0 + 6) (Int32.toNatClampNeg x5)), .int x5, .ref (x0 + 6)] rfl (fun _ => rfl) rfl ?_
  refine dg_s (pc' := 104) [.int ((x2 >>> (x5 &&& 31)) &&& (1 : Int32)), .int ((dc_wi m s3 (Int32.toNatClampNeg s2) (s1 ||| s0)).1 (x0 + 6) (Int32.toNatClampNeg x5)), .int x5, .ref (x0 + 6)] rfl (fun _ => rfl) rfl ?_
  refine dw_if (fun t => Φ t) ((Int32.toInt ((x2 >>> (x5 &&& 31)) &&& (1 : Int32))) = 0) [.int ((dc_wi m s3 (Int32.toNatClampNeg s2) (s1 ||| s0)).1 (x0 + 6) (Int32.toNatClampNeg x5)), .int x5, .ref (x0 + 6)] 112 107 rfl (fun _ => rfl) (fun c0 => ?_) (fun c0 => ?_)
  · refine dw_g rfl ?_
    refine dg_s (pc' := 113) [.int (0 : Int32), .int ((dc_wi m s3 (Int32.toNatClampNeg s2) (s1 ||| s0)).1 (x0 + 6) (Int32.toNatClampNeg x5)), .int x5, .ref (x0 + 6)] rfl (fun _ => rfl) rfl ?_
    refine dg_s (pc' := 114) [.int (((dc_wi m s3 (Int32.toNatClampNeg s2) (s1 ||| s0)).1 (x0 + 6) (Int32.toNatClampNeg x5)) ||| (0 : Int32)), .int x5, .ref (x0 + 6)] rfl (fun _ => rfl) rfl ?_
    refine dg_m (pc' := 115) (dc_wi (dc_wi m s3 (Int32.toNatClampNeg s2) (s1 ||| s0)) (x0 + 6) (Int32.toNatClampNeg x5) (((dc_wi m s3 (Int32.toNatClampNeg s2) (s1 ||| s0)).1 (x0 + 6) (Int32.toNatClampNeg x5)) ||| (0 : Int32))) [] rfl (fun _ => rfl) rfl ?_
    refine dg_L (pc' := 118) [(5, .int (x5 + (1 : Int32))), (0, .ref x0), (1, .int x1), (2, .int x2), (4, .int x4)] [] rfl (fun _ => rfl) rfl ?_
    refine dw_s (pc' := 56) [] rfl (fun _ => rfl) ?_
    exact dw_j rfl (fun lv1 hv => k56 (x5 + (1 : Int32)) (dc_wi (dc_wi m s3 (Int32.toNatClampNeg s2) (s1 ||| s0)) (x0 + 6) (Int32.toNatClampNeg x5) (((dc_wi m s3 (Int32.toNatClampNeg s2) (s1 ||| s0)).1 (x0 + 6) (Int32.toNatClampNeg x5)) ||| (0 : Int32))) lv1 (hv.1 _ rfl) (hv.2.1 _ rfl) (hv.2.2.1 _ rfl) (hv.2.2.2.1 _ rfl) (hv.2.2.2.2.1 _ rfl))
  · refine dw_g rfl ?_
    refine dg_s (pc' := 109) [.int x4, .int ((dc_wi m s3 (Int32.toNatClampNeg s2) (s1 ||| s0)).1 (x0 + 6) (Int32.toNatClampNeg x5)), .int x5, .ref (x0 + 6)] rfl (fun _ => rfl) rfl ?_
    refine dg_s (pc' := 113) [.int x4, .int ((dc_wi m s3 (Int32.toNatClampNeg s2) (s1 ||| s0)).1 (x0 + 6) (Int32.toNatClampNeg x5)), .int x5, .ref (x0 + 6)] rfl (fun _ => rfl) rfl ?_
    refine dg_s (pc' := 114) [.int (((dc_wi m s3 (Int32.toNatClampNeg s2) (s1 ||| s0)).1 (x0 + 6) (Int32.toNatClampNeg x5)) ||| x4), .int x5, .ref (x0 + 6)] rfl (fun _ => rfl) rfl ?_
    refine dg_m (pc' := 115) (dc_wi (dc_wi m s3 (Int32.toNatClampNeg s2) (s1 ||| s0)) (x0 + 6) (Int32.toNatClampNeg x5) (((dc_wi m s3 (Int32.toNatClampNeg s2) (s1 ||| s0)).1 (x0 + 6) (Int32.toNatClampNeg x5)) ||| x4)) [] rfl (fun _ => rfl) rfl ?_
    refine dg_L (pc' := 118) [(5, .int (x5 + (1 : Int32))), (0, .ref x0), (1, .int x1), (2, .int x2), (4, .int x4)] [] rfl (fun _ => rfl) rfl ?_
    refine dw_s (pc' := 56) [] rfl (fun _ => rfl) ?_
    exact dw_j rfl (fun lv1 hv => k56 (x5 + (1 : Int32)) (dc_wi (dc_wi m s3 (Int32.toNatClampNeg s2) (s1 ||| s0)) (x0 + 6) (Int32.toNatClampNeg x5) (((dc_wi m s3 (Int32.toNatClampNeg s2) (s1 ||| s0)).1 (x0 + 6) (Int32.toNatClampNeg x5)) ||| x4)) lv1 (hv.1 _ rfl) (hv.2.1 _ rfl) (hv.2.2.1 _ rfl) (hv.2.2.2.1 _ rfl) (hv.2.2.2.2.1 _ rfl))
noncomputable def d_X3_addPlace_l56b (x0 : Nat) (x1 : Int32) (x2 : Int32) (x4 : Int32) (x5 : Int32) (m : dc_M) : Option ((Int32 × dc_M) ⊕ dc_M) :=
  (if (Int32.toInt (m.1 x0 1)) ≤ (Int32.toInt x5) then some (Sum.inr ((dc_wi m x0 2 ((m.1 x0 2) + (1 : Int32))))) else (if (Int32.toInt ((x1 >>> (x5 &&& 31)) &&& (1 : Int32))) = 0 then (d_X3_addPlace_b88 x0 x1 x2 x4 x5 (0 : Int32) (m.1 (x0 + 7) (Int32.toNatClampNeg x5)) x5 (x0 + 7) m) else (d_X3_addPlace_b88 x0 x1 x2 x4 x5 x4 (m.1 (x0 + 7) (Int32.toNatClampNeg x5)) x5 (x0 + 7) m)))
noncomputable def d_X3_addPlace_l56s (x0 : Nat) (x1 : Int32) (x2 : Int32) (x4 : Int32) : (Int32 × dc_M) → Option ((Int32 × dc_M) ⊕ dc_M) := fun s => d_X3_addPlace_l56b x0 x1 x2 x4 s.1 s.2
noncomputable def d_X3_addPlace_l56 (x0 : Nat) (x1 : Int32) (x2 : Int32) (x4 : Int32) (x5 : Int32) (m : dc_M) : Option dc_M := dc_lp (d_X3_addPlace_l56s x0 x1 x2 x4) (x5, m)
set_option maxHeartbeats 8000000 in
theorem k_X3_addPlace_l56 {u : Nat} {Φ : (Option dc_M) → Option Value → dc_M → Prop} (x0 : Nat) (x1 : Int32) (x2 : Int32) (x4 : Int32) (kR : ∀  (m : dc_M), Φ (some (m)) (none) m) : ∀ (N : Nat), ∀ (x5 : Int32) (m : dc_M) (lv : ab_L), ab_lk lv 0 = some (.ref x0) → ab_lk lv 1 = some (.int x1) → ab_lk lv 2 = some (.int x2) → ab_lk lv 4 = some (.int x4) → ab_lk lv 5 = some (.int x5) → dc_pv u N ab_M_X3_addPlace 56 lv [] m (Φ (d_X3_addPlace_l56 x0 x1 x2 x4 x5 m)) := by
  intro N
  induction N with
  | zero => intros; exact dc_pv_zero
  | succ N ih =>
    intro x5 m lv f0 f1 f2 f4 f5
    refine dc_ok (C := C_X3_addPlace) (S := S_X3_addPlace) CO_X3_addPlace 400 56 [(0, .ref x0), (1, .int x1), (2, .int x2), (4, .int x4), (5, .int x5)] lv [] m (dc_sub_cons f0 (dc_sub_cons f1 (dc_sub_cons f2 (dc_sub_cons f4 (dc_sub_cons f5 (dc_sub_nil)))))) ?_
    unfold d_X3_addPlace_l56
    rw [dc_lp_eq]
    show (fun t x => dc_lf u N ab_M_X3_addPlace (Φ (Option.bind t (dc_bk (d_X3_addPlace_l56s x0 x1 x2 x4)))) x) (d_X3_addPlace_l56b x0 x1 x2 x4 x5 m) _
    dsimp only
    unfold d_X3_addPlace_l56b
    refine dg_s (pc' := 58) [.int x5] rfl (fun _ => rfl) rfl ?_
    refine dg_s (pc' := 59) [.ref x0, .int x5] rfl (fun _ => rfl) rfl ?_
    refine dg_s (pc' := 62) [.int (m.1 x0 1), .int x5] rfl (fun _ => rfl) rfl ?_
    refine dw_if (fun t => Φ (Option.bind t (dc_bk (d_X3_addPlace_l56s x0 x1 x2 x4)))) ((Int32.toInt (m.1 x0 1)) ≤ (Int32.toInt x5)) [] 121 65 rfl (fun _ => rfl) (fun c0 => ?_) (fun c0 => ?_)
    · refine dw_g rfl ?_
      refine dg_s (pc' := 122) [.ref x0] rfl (fun _ => rfl) rfl ?_
      refine dg_s (pc' := 123) [.ref x0, .ref x0] rfl (fun _ => rfl) rfl ?_
      refine dg_s (pc' := 126) [.int (m.1 x0 2), .ref x0] rfl (fun _ => rfl) rfl ?_
      refine dg_s (pc' := 127) [.int (1 : Int32), .int (m.1 x0 2), .ref x0] rfl (fun _ => rfl) rfl ?_
      refine dg_s (pc' := 128) [.int ((m.1 x0 2) + (1 : Int32)), .ref x0] rfl (fun _ => rfl) rfl ?_
      refine dg_m (pc' := 131) (dc_wi m x0 2 ((m.1 x0 2) + (1 : Int32))) [] rfl (fun _ => rfl) rfl ?_
      exact dw_r (some (.inl (none, (dc_wi m x0 2 ((m.1 x0 2) + (1 : Int32)))))) rfl (fun _ => rfl) (kR _)
    · refine dw_g rfl ?_
      refine dg_s (pc' := 66) [.ref x0] rfl (fun _ => rfl) rfl ?_
      refine dg_s (pc' := 69) [.ref (x0 + 7)] rfl (fun _ => rfl) rfl ?_
      refine dg_s (pc' := 71) [.int x5, .ref (x0 + 7)] rfl (fun _ => rfl) rfl ?_
      refine dg_s (pc' := 72) [.int x5, .ref (x0 + 7), .int x5, .ref (x0 + 7)] rfl (fun _ => rfl) rfl ?_
      refine dg_s (pc' := 73) [.int (m.1 (x0 + 7) (Int32.toNatClampNeg x5)), .int x5, .ref (x0 + 7)] rfl (fun _ => rfl) rfl ?_
      refine dg_s (pc' := 74) [.int x1, .int (m.1 (x0 + 7) (Int32.toNatClampNeg x5)), .int x5, .ref (x0 + 7)] rfl (fun _ => rfl) rfl ?_
      refine dg_s (pc' := 76) [.int x5, .int x1, .int (m.1 (x0 + 7) (Int32.toNatClampNeg x5)), .int x5, .ref (x0 + 7)] rfl (fun _ => rfl) rfl ?_
      refine dg_s (pc' := 77) [.int (x1 >>> (x5 &&& 31)), .int (m.1 (x0 + 7) (Int32.toNatClampNeg x5)), .int x5, .ref (x0 + 7)] rfl (fun _ => rfl) rfl ?_
      refine dg_s (pc' := 78) [.int (1 : Int32), .int (x1 >>> (x5 &&& 31)), .int (m.1 (x0 + 7) (Int32.toNatClampNeg x5)), .int x5, .ref (x0 + 7)] rfl (fun _ => rfl) rfl ?_
      refine dg_s (pc' := 79) [.int ((x1 >>> (x5 &&& 31)) &&& (1 : Int32)), .int (m.1 (x0 + 7) (Int32.toNatClampNeg x5)), .int x5, .ref (x0 + 7)] rfl (fun _ => rfl) rfl ?_
      refine dw_if (fun t => Φ (Option.bind t (dc_bk (d_X3_addPlace_l56s x0 x1 x2 x4)))) ((Int32.toInt ((x1 >>> (x5 &&& 31)) &&& (1 : Int32))) = 0) [.int (m.1 (x0 + 7) (Int32.toNatClampNeg x5)), .int x5, .ref (x0 + 7)] 87 82 rfl (fun _ => rfl) (fun c1 => ?_) (fun c1 => ?_)
      · refine dw_g rfl ?_
        refine dw_s (pc' := 88) [.int (0 : Int32), .int (m.1 (x0 + 7) (Int32.toNatClampNeg x5)), .int x5, .ref (x0 + 7)] rfl (fun _ => rfl) ?_
        exact dw_j rfl (fun lv1 hv => k_X3_addPlace_b88 (Φ := (fun t => Φ (Option.bind t (dc_bk (d_X3_addPlace_l56s x0 x1 x2 x4))))) x0 x1 x2 x4 x5 (0 : Int32) (m.1 (x0 + 7) (Int32.toNatClampNeg x5)) x5 (x0 + 7) m (fun _b => kR _b) ih (hv.1 _ rfl) (hv.2.1 _ rfl) (hv.2.2.1 _ rfl) (hv.2.2.2.1 _ rfl) (hv.2.2.2.2.1 _ rfl))
      · refine dw_g rfl ?_
        refine dg_s (pc' := 84) [.int x4, .int (m.1 (x0 + 7) (Int32.toNatClampNeg x5)), .int x5, .ref (x0 + 7)] rfl (fun _ => rfl) rfl ?_
        refine dw_s (pc' := 88) [.int x4, .int (m.1 (x0 + 7) (Int32.toNatClampNeg x5)), .int x5, .ref (x0 + 7)] rfl (fun _ => rfl) ?_
        exact dw_j rfl (fun lv1 hv => k_X3_addPlace_b88 (Φ := (fun t => Φ (Option.bind t (dc_bk (d_X3_addPlace_l56s x0 x1 x2 x4))))) x0 x1 x2 x4 x5 x4 (m.1 (x0 + 7) (Int32.toNatClampNeg x5)) x5 (x0 + 7) m (fun _b => kR _b) ih (hv.1 _ rfl) (hv.2.1 _ rfl) (hv.2.2.1 _ rfl) (hv.2.2.2.1 _ rfl) (hv.2.2.2.2.1 _ rfl))
noncomputable def d_X3_addPlace (x0 : Nat) (x1 : Int32) (x2 : Int32) (x3 : Int32) (m : dc_M) : Option dc_M :=
  (if (Int32.toInt (m.1 x0 2)) < 20 then (d_X3_addPlace_l56 x0 x1 x2 ((1 : Int32) <<< ((m.1 x0 2) &&& 31)) (0 : Int32) (dc_wi (dc_wi (dc_wi m (x0 + 9) (Int32.toNatClampNeg (m.1 x0 2)) x1) (x0 + 10) (Int32.toNatClampNeg ((dc_wi m (x0 + 9) (Int32.toNatClampNeg (m.1 x0 2)) x1).1 x0 2)) x2) x0 13 (((dc_wi (dc_wi m (x0 + 9) (Int32.toNatClampNeg (m.1 x0 2)) x1) (x0 + 10) (Int32.toNatClampNeg ((dc_wi m (x0 + 9) (Int32.toNatClampNeg (m.1 x0 2)) x1).1 x0 2)) x2).1 x0 13) ||| (x3 <<< (((dc_wi (dc_wi m (x0 + 9) (Int32.toNatClampNeg (m.1 x0 2)) x1) (x0 + 10) (Int32.toNatClampNeg ((dc_wi m (x0 + 9) (Int32.toNatClampNeg (m.1 x0 2)) x1).1 x0 2)) x2).1 x0 2) &&& 31))))) else some (m))
set_option maxHeartbeats 8000000 in
theorem k_X3_addPlace {u : Nat} {N : Nat} {Φ : (Option dc_M) → Option Value → dc_M → Prop} (x0 : Nat) (x1 : Int32) (x2 : Int32) (x3 : Int32) (m : dc_M) (kR : ∀  (m : dc_M), Φ (some (m)) (none) m)  {lv : ab_L} (f0 : ab_lk lv 0 = some (.ref x0)) (f1 : ab_lk lv 1 = some (.int x1)) (f2 : ab_lk lv 2 = some (.int x2)) (f3 : ab_lk lv 3 = some (.int x3)) : dc_pv u N ab_M_X3_addPlace 0 lv [] m (Φ (d_X3_addPlace x0 x1 x2 x3 m)) := by
  refine dc_pv.mono (dc_ok (C := C_X3_addPlace) (S := S_X3_addPlace) CO_X3_addPlace 400 0 [(0, .ref x0), (1, .int x1), (2, .int x2), (3, .int x3)] lv [] m (dc_sub_cons f0 (dc_sub_cons f1 (dc_sub_cons f2 (dc_sub_cons f3 (dc_sub_nil))))) ?_) (Nat.le_succ N)
  unfold d_X3_addPlace
  refine dg_s (pc' := 1) [.ref x0] rfl (fun _ => rfl) rfl ?_
  refine dg_s (pc' := 4) [.int (m.1 x0 2)] rfl (fun _ => rfl) rfl ?_
  refine dg_s (pc' := 6) [.int (20 : Int32), .int (m.1 x0 2)] rfl (fun _ => rfl) rfl ?_
  refine dw_if (fun t => Φ t) ((Int32.toInt (m.1 x0 2)) < 20) [] 10 9 rfl (fun _ => rfl) (fun c0 => ?_) (fun c0 => ?_)
  · refine dw_g rfl ?_
    refine dg_s (pc' := 11) [.int (1 : Int32)] rfl (fun _ => rfl) rfl ?_
    refine dg_s (pc' := 12) [.ref x0, .int (1 : Int32)] rfl (fun _ => rfl) rfl ?_
    refine dg_s (pc' := 15) [.int (m.1 x0 2), .int (1 : Int32)] rfl (fun _ => rfl) rfl ?_
    refine dg_s (pc' := 16) [.int ((1 : Int32) <<< ((m.1 x0 2) &&& 31))] rfl (fun _ => rfl) rfl ?_
    refine dg_L (pc' := 18) [(4, .int ((1 : Int32) <<< ((m.1 x0 2) &&& 31))), (0, .ref x0), (1, .int x1), (2, .int x2), (3, .int x3)] [] rfl (fun _ => rfl) rfl ?_
    refine dg_s (pc' := 19) [.ref x0] rfl (fun _ => rfl) rfl ?_
    refine dg_s (pc' := 22) [.ref (x0 + 9)] rfl (fun _ => rfl) rfl ?_
    refine dg_s (pc' := 23) [.ref x0, .ref (x0 + 9)] rfl (fun _ => rfl) rfl ?_
    refine dg_s (pc' := 26) [.int (m.1 x0 2), .ref (x0 + 9)] rfl (fun _ => rfl) rfl ?_
    refine dg_s (pc' := 27) [.int x1, .int (m.1 x0 2), .ref (x0 + 9)] rfl (fun _ => rfl) rfl ?_
    refine dg_m (pc' := 28) (dc_wi m (x0 + 9) (Int32.toNatClampNeg (m.1 x0 2)) x1) [] rfl (fun _ => rfl) rfl ?_
    refine dg_s (pc' := 29) [.ref x0] rfl (fun _ => rfl) rfl ?_
    refine dg_s (pc' := 32) [.ref (x0 + 10)] rfl (fun _ => rfl) rfl ?_
    refine dg_s (pc' := 33) [.ref x0, .ref (x0 + 10)] rfl (fun _ => rfl) rfl ?_
    refine dg_s (pc' := 36) [.int ((dc_wi m (x0 + 9) (Int32.toNatClampNeg (m.1 x0 2)) x1).1 x0 2), .ref (x0 + 10)] rfl (fun _ => rfl) rfl ?_
    refine dg_s (pc' := 37) [.int x2, .int ((dc_wi m (x0 + 9) (Int32.toNatClampNeg (m.1 x0 2)) x1).1 x0 2), .ref (x0 + 10)] rfl (fun _ => rfl) rfl ?_
    refine dg_m (pc' := 38) (dc_wi (dc_wi m (x0 + 9) (Int32.toNatClampNeg (m.1 x0 2)) x1) (x0 + 10) (Int32.toNatClampNeg ((dc_wi m (x0 + 9) (Int32.toNatClampNeg (m.1 x0 2)) x1).1 x0 2)) x2) [] rfl (fun _ => rfl) rfl ?_
    refine dg_s (pc' := 39) [.ref x0] rfl (fun _ => rfl) rfl ?_
    refine dg_s (pc' := 40) [.ref x0, .ref x0] rfl (fun _ => rfl) rfl ?_
    refine dg_s (pc' := 43) [.int ((dc_wi (dc_wi m (x0 + 9) (Int32.toNatClampNeg (m.1 x0 2)) x1) (x0 + 10) (Int32.toNatClampNeg ((dc_wi m (x0 + 9) (Int32.toNatClampNeg (m.1 x0 2)) x1).1 x0 2)) x2).1 x0 13), .ref x0] rfl (fun _ => rfl) rfl ?_
    refine dg_s (pc' := 44) [.int x3, .int ((dc_wi (dc_wi m (x0 + 9) (Int32.toNatClampNeg (m.1 x0 2)) x1) (x0 + 10) (Int32.toNatClampNeg ((dc_wi m (x0 + 9) (Int32.toNatClampNeg (m.1 x0 2)) x1).1 x0 2)) x2).1 x0 13), .ref x0] rfl (fun _ => rfl) rfl ?_
    refine dg_s (pc' := 45) [.ref x0, .int x3, .int ((dc_wi (dc_wi m (x0 + 9) (Int32.toNatClampNeg (m.1 x0 2)) x1) (x0 + 10) (Int32.toNatClampNeg ((dc_wi m (x0 + 9) (Int32.toNatClampNeg (m.1 x0 2)) x1).1 x0 2)) x2).1 x0 13), .ref x0] rfl (fun _ => rfl) rfl ?_
    refine dg_s (pc' := 48) [.int ((dc_wi (dc_wi m (x0 + 9) (Int32.toNatClampNeg (m.1 x0 2)) x1) (x0 + 10) (Int32.toNatClampNeg ((dc_wi m (x0 + 9) (Int32.toNatClampNeg (m.1 x0 2)) x1).1 x0 2)) x2).1 x0 2), .int x3, .int ((dc_wi (dc_wi m (x0 + 9) (Int32.toNatClampNeg (m.1 x0 2)) x1) (x0 + 10) (Int32.toNatClampNeg ((dc_wi m (x0 + 9) (Int32.toNatClampNeg (m.1 x0 2)) x1).1 x0 2)) x2).1 x0 13), .ref x0] rfl (fun _ => rfl) rfl ?_
    refine dg_s (pc' := 49) [.int (x3 <<< (((dc_wi (dc_wi m (x0 + 9) (Int32.toNatClampNeg (m.1 x0 2)) x1) (x0 + 10) (Int32.toNatClampNeg ((dc_wi m (x0 + 9) (Int32.toNatClampNeg (m.1 x0 2)) x1).1 x0 2)) x2).1 x0 2) &&& 31)), .int ((dc_wi (dc_wi m (x0 + 9) (Int32.toNatClampNeg (m.1 x0 2)) x1) (x0 + 10) (Int32.toNatClampNeg ((dc_wi m (x0 + 9) (Int32.toNatClampNeg (m.1 x0 2)) x1).1 x0 2)) x2).1 x0 13), .ref x0] rfl (fun _ => rfl) rfl ?_
    refine dg_s (pc' := 50) [.int (((dc_wi (dc_wi m (x0 + 9) (Int32.toNatClampNeg (m.1 x0 2)) x1) (x0 + 10) (Int32.toNatClampNeg ((dc_wi m (x0 + 9) (Int32.toNatClampNeg (m.1 x0 2)) x1).1 x0 2)) x2).1 x0 13) ||| (x3 <<< (((dc_wi (dc_wi m (x0 + 9) (Int32.toNatClampNeg (m.1 x0 2)) x1) (x0 + 10) (Int32.toNatClampNeg ((dc_wi m (x0 + 9) (Int32.toNatClampNeg (m.1 x0 2)) x1).1 x0 2)) x2).1 x0 2) &&& 31))), .ref x0] rfl (fun _ => rfl) rfl ?_
    refine dg_m (pc' := 53) (dc_wi (dc_wi (dc_wi m (x0 + 9) (Int32.toNatClampNeg (m.1 x0 2)) x1) (x0 + 10) (Int32.toNatClampNeg ((dc_wi m (x0 + 9) (Int32.toNatClampNeg (m.1 x0 2)) x1).1 x0 2)) x2) x0 13 (((dc_wi (dc_wi m (x0 + 9) (Int32.toNatClampNeg (m.1 x0 2)) x1) (x0 + 10) (Int32.toNatClampNeg ((dc_wi m (x0 + 9) (Int32.toNatClampNeg (m.1 x0 2)) x1).1 x0 2)) x2).1 x0 13) ||| (x3 <<< (((dc_wi (dc_wi m (x0 + 9) (Int32.toNatClampNeg (m.1 x0 2)) x1) (x0 + 10) (Int32.toNatClampNeg ((dc_wi m (x0 + 9) (Int32.toNatClampNeg (m.1 x0 2)) x1).1 x0 2)) x2).1 x0 2) &&& 31)))) [] rfl (fun _ => rfl) rfl ?_
    refine dg_s (pc' := 54) [.int (0 : Int32)] rfl (fun _ => rfl) rfl ?_
    refine dw_L (pc' := 56) [(5, .int (0 : Int32)), (4, .int ((1 : Int32) <<< ((m.1 x0 2) &&& 31))), (0, .ref x0), (1, .int x1), (2, .int x2), (3, .int x3)] [] rfl (fun _ => rfl) ?_
    exact dw_j rfl (fun lv1 hv => k_X3_addPlace_l56 (Φ := (fun t => Φ t)) x0 x1 x2 ((1 : Int32) <<< ((m.1 x0 2) &&& 31)) (fun _b => kR _b) N  (0 : Int32) (dc_wi (dc_wi (dc_wi m (x0 + 9) (Int32.toNatClampNeg (m.1 x0 2)) x1) (x0 + 10) (Int32.toNatClampNeg ((dc_wi m (x0 + 9) (Int32.toNatClampNeg (m.1 x0 2)) x1).1 x0 2)) x2) x0 13 (((dc_wi (dc_wi m (x0 + 9) (Int32.toNatClampNeg (m.1 x0 2)) x1) (x0 + 10) (Int32.toNatClampNeg ((dc_wi m (x0 + 9) (Int32.toNatClampNeg (m.1 x0 2)) x1).1 x0 2)) x2).1 x0 13) ||| (x3 <<< (((dc_wi (dc_wi m (x0 + 9) (Int32.toNatClampNeg (m.1 x0 2)) x1) (x0 + 10) (Int32.toNatClampNeg ((dc_wi m (x0 + 9) (Int32.toNatClampNeg (m.1 x0 2)) x1).1 x0 2)) x2).1 x0 2) &&& 31)))) lv1 (hv.1 _ rfl) (hv.2.1 _ rfl) (hv.2.2.1 _ rfl) (hv.2.2.2.1 _ rfl) (hv.2.2.2.2.1 _ rfl))
  · refine dw_g rfl ?_
    exact dw_r (some (.inl (none, m))) rfl (fun _ => rfl) (kR _)
noncomputable def H_X3_addPlace : dc_H := fun As m k => match As with
  | [.ref x0, .int x1, .int x2, .int x3] => (d_X3_addPlace x0 x1 x2 x3 m).bind (fun q => k (none) q)
  | _ => dc_kz
theorem H_X3_addPlace_ok {u : Nat} : dc_cok u 35 H_X3_addPlace := fun M' hG N As m k P hz hP => by
  obtain rfl : ab_M_X3_addPlace = M' := Option.some.inj hG
  unfold H_X3_addPlace at hP
  split at hP
  · rename_i x0 x1 x2 x3
    exact dc_pv.imp (k_X3_addPlace (Φ := fun (t : Option dc_M) r m' => P (t.bind (fun q => k (none) q)) → P (k r m')) x0 x1 x2 x3 m (fun _ h => h) rfl rfl rfl rfl) (fun r m' h => h hP)
  · exact absurd hP hz
def C_X3_isReady : List (Nat × dc_H) := []
theorem CO_X3_isReady {u : Nat} : dc_CO u C_X3_isReady := dc_CO_nil
def S_X3_isReady : List (Nat × List Nat) := []
def d_X3_isReady (x0 : Nat) (x1 : Int32) (x2 : Int32) (m : dc_M) : Int32 :=
  (if (Int32.toInt (m.1 (x0 + 6) (Int32.toNatClampNeg x2))) = 0 then (0 : Int32) else (if ¬ (Int32.toInt (x1 &&& (m.1 (x0 + 6) (Int32.toNatClampNeg x2)))) = (Int32.toInt (m.1 (x0 + 6) (Int32.toNatClampNeg x2))) then (0 : Int32) else (1 : Int32)))
set_option maxHeartbeats 8000000 in
theorem k_X3_isReady {u : Nat} {N : Nat} {Φ : Int32 → Option Value → dc_M → Prop} (x0 : Nat) (x1 : Int32) (x2 : Int32) (m : dc_M) (kR : ∀ (v : Int32), Φ (v) (some (.int v)) m)  {lv : ab_L} (f0 : ab_lk lv 0 = some (.ref x0)) (f1 : ab_lk lv 1 = some (.int x1)) (f2 : ab_lk lv 2 = some (.int x2)) : dc_pv u N ab_M_X3_isReady 0 lv [] m (Φ (d_X3_isReady x0 x1 x2 m)) := by
  refine dc_pv.mono (dc_ok (C := C_X3_isReady) (S := S_X3_isReady) CO_X3_isReady 400 0 [(0, .ref x0), (1, .int x1), (2, .int x2)] lv [] m (dc_sub_cons f0 (dc_sub_cons f1 (dc_sub_cons f2 (dc_sub_nil)))) ?_) (Nat.le_succ N)
  unfold d_X3_isReady
  refine dg_s (pc' := 1) [.ref x0] rfl (fun _ => rfl) rfl ?_
  refine dg_s (pc' := 4) [.ref (x0 + 6)] rfl (fun _ => rfl) rfl ?_
  refine dg_s (pc' := 5) [.int x2, .ref (x0 + 6)] rfl (fun _ => rfl) rfl ?_
  refine dg_s (pc' := 6) [.int (m.1 (x0 + 6) (Int32.toNatClampNeg x2))] rfl (fun _ => rfl) rfl ?_
  refine dw_if (fun t => Φ t) ((Int32.toInt (m.1 (x0 + 6) (Int32.toNatClampNeg x2))) = 0) [] 30 9 rfl (fun _ => rfl) (fun c0 => ?_) (fun c0 => ?_)
  · refine dw_g rfl ?_
    refine dg_s (pc' := 31) [.int (0 : Int32)] rfl (fun _ => rfl) rfl ?_
    exact dw_r (some (.inl (some (.int (0 : Int32)), m))) rfl (fun _ => rfl) (kR _)
  · refine dw_g rfl ?_
    refine dg_s (pc' := 10) [.int x1] rfl (fun _ => rfl) rfl ?_
    refine dg_s (pc' := 11) [.ref x0, .int x1] rfl (fun _ => rfl) rfl ?_
    refine dg_s (pc' := 14) [.ref (x0 + 6), .int x1] rfl (fun _ => rfl) rfl ?_
    refine dg_s (pc' := 15) [.int x2, .ref (x0 + 6), .int x1] rfl (fun _ => rfl) rfl ?_
    refine dg_s (pc' := 16) [.int (m.1 (x0 + 6) (Int32.toNatClampNeg x2)), .int x1] rfl (fun _ => rfl) rfl ?_
    refine dg_s (pc' := 17) [.int (x1 &&& (m.1 (x0 + 6) (Int32.toNatClampNeg x2)))] rfl (fun _ => rfl) rfl ?_
    refine dg_s (pc' := 18) [.ref x0, .int (x1 &&& (m.1 (x0 + 6) (Int32.toNatClampNeg x2)))] rfl (fun _ => rfl) rfl ?_
    refine dg_s (pc' := 21) [.ref (x0 + 6), .int (x1 &&& (m.1 (x0 + 6) (Int32.toNatClampNeg x2)))] rfl (fun _ => rfl) rfl ?_
    refine dg_s (pc' := 22) [.int x2, .ref (x0 + 6), .int (x1 &&& (m.1 (x0 + 6) (Int32.toNatClampNeg x2)))] rfl (fun _ => rfl) rfl ?_
    refine dg_s (pc' := 23) [.int (m.1 (x0 + 6) (Int32.toNatClampNeg x2)), .int (x1 &&& (m.1 (x0 + 6) (Int32.toNatClampNeg x2)))] rfl (fun _ => rfl) rfl ?_
    refine dw_if (fun t => Φ t) (¬ (Int32.toInt (x1 &&& (m.1 (x0 + 6) (Int32.toNatClampNeg x2)))) = (Int32.toInt (m.1 (x0 + 6) (Int32.toNatClampNeg x2)))) [] 30 26 rfl (fun _ => rfl) (fun c1 => ?_) (fun c1 => ?_)
    · refine dw_g rfl ?_
      refine dg_s (pc' := 31) [.int (0 : Int32)] rfl (fun _ => rfl) rfl ?_
      exact dw_r (some (.inl (some (.int (0 : Int32)), m))) rfl (fun _ => rfl) (kR _)
    · refine dw_g rfl ?_
      refine dg_s (pc' := 27) [.int (1 : Int32)] rfl (fun _ => rfl) rfl ?_
      refine dg_s (pc' := 31) [.int (1 : Int32)] rfl (fun _ => rfl) rfl ?_
      exact dw_r (some (.inl (some (.int (1 : Int32)), m))) rfl (fun _ => rfl) (kR _)
def H_X3_isReady : dc_H := fun As m k => match As with
  | [.ref x0, .int x1, .int x2] => k (some (.int (d_X3_isReady x0 x1 x2 m))) m
  | _ => dc_kz
theorem H_X3_isReady_ok {u : Nat} : dc_cok u 36 H_X3_isReady := fun M' hG N As m k P hz hP => by
  obtain rfl : ab_M_X3_isReady = M' := Option.some.inj hG
  unfold H_X3_isReady at hP
  split at hP
  · rename_i x0 x1 x2
    exact dc_pv.imp (k_X3_isReady (Φ := fun (t : Int32) r m' => P (k (some (.int t)) m) → P (k r m')) x0 x1 x2 m (fun _  h => h) rfl rfl rfl) (fun r m' h => h hP)
  · exact absurd hP hz
def C_X3_isUnsafe : List (Nat × dc_H) := []
theorem CO_X3_isUnsafe {u : Nat} : dc_CO u C_X3_isUnsafe := dc_CO_nil
def S_X3_isUnsafe : List (Nat × List Nat) := []
def d_X3_isUnsafe (x0 : Nat) (x1 : Int32) (x2 : Int32) (m : dc_M) : Int32 :=
  (if (Int32.toInt ((x1 &&& ((m.1 (x0 + 6) (Int32.toNatClampNeg x2)) ^^^ (-1 : Int32))) &&& (m.1 (x0 + 7) (Int32.toNatClampNeg x2)))) = 0 then (0 : Int32) else (1 : Int32))
set_option maxHeartbeats 8000000 in
theorem k_X3_isUnsafe {u : Nat} {N : Nat} {Φ : Int32 → Option Value → dc_M → Prop} (x0 : Nat) (x1 : Int32) (x2 : Int32) (m : dc_M) (kR : ∀ (v : Int32), Φ (v) (some (.int v)) m)  {lv : ab_L} (f0 : ab_lk lv 0 = some (.ref x0)) (f1 : ab_lk lv 1 = some (.int x1)) (f2 : ab_lk lv 2 = some (.int x2)) : dc_pv u N ab_M_X3_isUnsafe 0 lv [] m (Φ (d_X3_isUnsafe x0 x1 x2 m)) := by
  refine dc_pv.mono (dc_ok (C := C_X3_isUnsafe) (S := S_X3_isUnsafe) CO_X3_isUnsafe 400 0 [(0, .ref x0), (1, .int x1), (2, .int x2)] lv [] m (dc_sub_cons f0 (dc_sub_cons f1 (dc_sub_cons f2 (dc_sub_nil)))) ?_) (Nat.le_succ N)
  unfold d_X3_isUnsafe
  refine dg_s (pc' := 1) [.int x1] rfl (fun _ => rfl) rfl ?_
  refine dg_s (pc' := 2) [.ref x0, .int x1] rfl (fun _ => rfl) rfl ?_
  refine dg_s (pc' := 5) [.ref (x0 + 6), .int x1] rfl (fun _ => rfl) rfl ?_
  refine dg_s (pc' := 6) [.int x2, .ref (x0 + 6), .int x1] rfl (fun _ => rfl) rfl ?_
  refine dg_s (pc' := 7) [.int (m.1 (x0 + 6) (Int32.toNatClampNeg x2)), .int x1] rfl (fun _ => rfl) rfl ?_
  refine dg_s (pc' := 8) [.int (-1 : Int32), .int (m.1 (x0 + 6) (Int32.toNatClampNeg x2)), .int x1] rfl (fun _ => rfl) rfl ?_
  refine dg_s (pc' := 9) [.int ((m.1 (x0 + 6) (Int32.toNatClampNeg x2)) ^^^ (-1 : Int32)), .int x1] rfl (fun _ => rfl) rfl ?_
  refine dg_s (pc' := 10) [.int (x1 &&& ((m.1 (x0 + 6) (Int32.toNatClampNeg x2)) ^^^ (-1 : Int32)))] rfl (fun _ => rfl) rfl ?_
  refine dg_s (pc' := 11) [.ref x0, .int (x1 &&& ((m.1 (x0 + 6) (Int32.toNatClampNeg x2)) ^^^ (-1 : Int32)))] rfl (fun _ => rfl) rfl ?_
  refine dg_s (pc' := 14) [.ref (x0 + 7), .int (x1 &&& ((m.1 (x0 + 6) (Int32.toNatClampNeg x2)) ^^^ (-1 : Int32)))] rfl (fun _ => rfl) rfl ?_
  refine dg_s (pc' := 15) [.int x2, .ref (x0 + 7), .int (x1 &&& ((m.1 (x0 + 6) (Int32.toNatClampNeg x2)) ^^^ (-1 : Int32)))] rfl (fun _ => rfl) rfl ?_
  refine dg_s (pc' := 16) [.int (m.1 (x0 + 7) (Int32.toNatClampNeg x2)), .int (x1 &&& ((m.1 (x0 + 6) (Int32.toNatClampNeg x2)) ^^^ (-1 : Int32)))] rfl (fun _ => rfl) rfl ?_
  refine dg_s (pc' := 17) [.int ((x1 &&& ((m.1 (x0 + 6) (Int32.toNatClampNeg x2)) ^^^ (-1 : Int32))) &&& (m.1 (x0 + 7) (Int32.toNatClampNeg x2)))] rfl (fun _ => rfl) rfl ?_
  refine dw_if (fun t => Φ t) ((Int32.toInt ((x1 &&& ((m.1 (x0 + 6) (Int32.toNatClampNeg x2)) ^^^ (-1 : Int32))) &&& (m.1 (x0 + 7) (Int32.toNatClampNeg x2)))) = 0) [] 24 20 rfl (fun _ => rfl) (fun c0 => ?_) (fun c0 => ?_)
  · refine dw_g rfl ?_
    refine dg_s (pc' := 25) [.int (0 : Int32)] rfl (fun _ => rfl) rfl ?_
    exact dw_r (some (.inl (some (.int (0 : Int32)), m))) rfl (fun _ => rfl) (kR _)
  · refine dw_g rfl ?_
    refine dg_s (pc' := 21) [.int (1 : Int32)] rfl (fun _ => rfl) rfl ?_
    refine dg_s (pc' := 25) [.int (1 : Int32)] rfl (fun _ => rfl) rfl ?_
    exact dw_r (some (.inl (some (.int (1 : Int32)), m))) rfl (fun _ => rfl) (kR _)
def H_X3_isUnsafe : dc_H := fun As m k => match As with
  | [.ref x0, .int x1, .int x2] => k (some (.int (d_X3_isUnsafe x0 x1 x2 m))) m
  | _ => dc_kz
theorem H_X3_isUnsafe_ok {u : Nat} : dc_cok u 37 H_X3_isUnsafe := fun M' hG N As m k P hz hP => by
  obtain rfl : ab_M_X3_isUnsafe = M' := Option.some.inj hG
  unfold H_X3_isUnsafe at hP
  split at hP
  · rename_i x0 x1 x2
    exact dc_pv.imp (k_X3_isUnsafe (Φ := fun (t : Int32) r m' => P (k (some (.int t)) m) → P (k r m')) x0 x1 x2 m (fun _  h => h) rfl rfl rfl) (fun r m' h => h hP)
  · exact absurd hP hz
def C_X3_canCome : List (Nat × dc_H) := [(36, H_X3_isReady), (37, H_X3_isUnsafe)]
theorem CO_X3_canCome {u : Nat} : dc_CO u C_X3_canCome := dc_CO_cons H_X3_isReady_ok (dc_CO_cons H_X3_isUnsafe_ok (dc_CO_nil))
def S_X3_canCome : List (Nat × List Nat) := []
def d_X3_canCome (x0 : Nat) (x1 : Int32) (x2 : Int32) (m : dc_M) : Int32 :=
  (if (Int32.toInt (d_X3_isReady x0 x1 x2 m)) = 0 then (0 : Int32) else (if ¬ (Int32.toInt (d_X3_isUnsafe x0 x1 x2 m)) = 0 then (0 : Int32) else (1 : Int32)))
set_option maxHeartbeats 8000000 in
theorem k_X3_canCome {u : Nat} {N : Nat} {Φ : Int32 → Option Value → dc_M → Prop} (x0 : Nat) (x1 : Int32) (x2 : Int32) (m : dc_M) (kR : ∀ (v : Int32), Φ (v) (some (.int v)) m)  {lv : ab_L} (f0 : ab_lk lv 0 = some (.ref x0)) (f1 : ab_lk lv 1 = some (.int x1)) (f2 : ab_lk lv 2 = some (.int x2)) : dc_pv u N ab_M_X3_canCome 0 lv [] m (Φ (d_X3_canCome x0 x1 x2 m)) := by
  refine dc_pv.mono (dc_ok (C := C_X3_canCome) (S := S_X3_canCome) CO_X3_canCome 400 0 [(0, .ref x0), (1, .int x1), (2, .int x2)] lv [] m (dc_sub_cons f0 (dc_sub_cons f1 (dc_sub_cons f2 (dc_sub_nil)))) ?_) (Nat.le_succ N)
  unfold d_X3_canCome
  refine dg_s (pc' := 1) [.ref x0] rfl (fun _ => rfl) rfl ?_
  refine dg_s (pc' := 2) [.int x1, .ref x0] rfl (fun _ => rfl) rfl ?_
  refine dg_s (pc' := 3) [.int x2, .int x1, .ref x0] rfl (fun _ => rfl) rfl ?_
  refine dg_s (pc' := 6) [.int (d_X3_isReady x0 x1 x2 m)] rfl (fun _ => rfl) rfl ?_
  refine dw_if (fun t => Φ t) ((Int32.toInt (d_X3_isReady x0 x1 x2 m)) = 0) [] 22 9 rfl (fun _ => rfl) (fun c0 => ?_) (fun c0 => ?_)
  · refine dw_g rfl ?_
    refine dg_s (pc' := 23) [.int (0 : Int32)] rfl (fun _ => rfl) rfl ?_
    exact dw_r (some (.inl (some (.int (0 : Int32)), m))) rfl (fun _ => rfl) (kR _)
  · refine dw_g rfl ?_
    refine dg_s (pc' := 10) [.ref x0] rfl (fun _ => rfl) rfl ?_
    refine dg_s (pc' := 11) [.int x1, .ref x0] rfl (fun _ => rfl) rfl ?_
    refine dg_s (pc' := 12) [.int x2, .int x1, .ref x0] rfl (fun _ => rfl) rfl ?_
    refine dg_s (pc' := 15) [.int (d_X3_isUnsafe x0 x1 x2 m)] rfl (fun _ => rfl) rfl ?_
    refine dw_if (fun t => Φ t) (¬ (Int32.toInt (d_X3_isUnsafe x0 x1 x2 m)) = 0) [] 22 18 rfl (fun _ => rfl) (fun c1 => ?_) (fun c1 => ?_)
    · refine dw_g rfl ?_
      refine dg_s (pc' := 23) [.int (0 : Int32)] rfl (fun _ => rfl) rfl ?_
      exact dw_r (some (.inl (some (.int (0 : Int32)), m))) rfl (fun _ => rfl) (kR _)
    · refine dw_g rfl ?_
      refine dg_s (pc' := 19) [.int (1 : Int32)] rfl (fun _ => rfl) rfl ?_
      refine dg_s (pc' := 23) [.int (1 : Int32)] rfl (fun _ => rfl) rfl ?_
      exact dw_r (some (.inl (some (.int (1 : Int32)), m))) rfl (fun _ => rfl) (kR _)
def H_X3_canCome : dc_H := fun As m k => match As with
  | [.ref x0, .int x1, .int x2] => k (some (.int (d_X3_canCome x0 x1 x2 m))) m
  | _ => dc_kz
theorem H_X3_canCome_ok {u : Nat} : dc_cok u 38 H_X3_canCome := fun M' hG N As m k P hz hP => by
  obtain rfl : ab_M_X3_canCome = M' := Option.some.inj hG
  unfold H_X3_canCome at hP
  split at hP
  · rename_i x0 x1 x2
    exact dc_pv.imp (k_X3_canCome (Φ := fun (t : Int32) r m' => P (k (some (.int t)) m) → P (k r m')) x0 x1 x2 m (fun _  h => h) rfl rfl rfl) (fun r m' h => h hP)
  · exact absurd hP hz
def C_X3_after : List (Nat × dc_H) := []
theorem CO_X3_after {u : Nat} : dc_CO u C_X3_after := dc_CO_nil
def S_X3_after : List (Nat × List Nat) := []
def d_X3_after (x0 : Nat) (x1 : Int32) (x2 : Int32) (m : dc_M) : Int32 :=
  ((x1 &&& ((m.1 (x0 + 6) (Int32.toNatClampNeg x2)) ^^^ (-1 : Int32))) ||| (m.1 (x0 + 7) (Int32.toNatClampNeg x2)))
set_option maxHeartbeats 8000000 in
theorem k_X3_after {u : Nat} {N : Nat} {Φ : Int32 → Option Value → dc_M → Prop} (x0 : Nat) (x1 : Int32) (x2 : Int32) (m : dc_M) (kR : ∀ (v : Int32), Φ (v) (some (.int v)) m)  {lv : ab_L} (f0 : ab_lk lv 0 = some (.ref x0)) (f1 : ab_lk lv 1 = some (.int x1)) (f2 : ab_lk lv 2 = some (.int x2)) : dc_pv u N ab_M_X3_after 0 lv [] m (Φ (d_X3_after x0 x1 x2 m)) := by
  refine dc_pv.mono (dc_ok (C := C_X3_after) (S := S_X3_after) CO_X3_after 400 0 [(0, .ref x0), (1, .int x1), (2, .int x2)] lv [] m (dc_sub_cons f0 (dc_sub_cons f1 (dc_sub_cons f2 (dc_sub_nil)))) ?_) (Nat.le_succ N)
  unfold d_X3_after
  refine dg_s (pc' := 1) [.int x1] rfl (fun _ => rfl) rfl ?_
  refine dg_s (pc' := 2) [.ref x0, .int x1] rfl (fun _ => rfl) rfl ?_
  refine dg_s (pc' := 5) [.ref (x0 + 6), .int x1] rfl (fun _ => rfl) rfl ?_
  refine dg_s (pc' := 6) [.int x2, .ref (x0 + 6), .int x1] rfl (fun _ => rfl) rfl ?_
  refine dg_s (pc' := 7) [.int (m.1 (x0 + 6) (Int32.toNatClampNeg x2)), .int x1] rfl (fun _ => rfl) rfl ?_
  refine dg_s (pc' := 8) [.int (-1 : Int32), .int (m.1 (x0 + 6) (Int32.toNatClampNeg x2)), .int x1] rfl (fun _ => rfl) rfl ?_
  refine dg_s (pc' := 9) [.int ((m.1 (x0 + 6) (Int32.toNatClampNeg x2)) ^^^ (-1 : Int32)), .int x1] rfl (fun _ => rfl) rfl ?_
  refine dg_s (pc' := 10) [.int (x1 &&& ((m.1 (x0 + 6) (Int32.toNatClampNeg x2)) ^^^ (-1 : Int32)))] rfl (fun _ => rfl) rfl ?_
  refine dg_s (pc' := 11) [.ref x0, .int (x1 &&& ((m.1 (x0 + 6) (Int32.toNatClampNeg x2)) ^^^ (-1 : Int32)))] rfl (fun _ => rfl) rfl ?_
  refine dg_s (pc' := 14) [.ref (x0 + 7), .int (x1 &&& ((m.1 (x0 + 6) (Int32.toNatClampNeg x2)) ^^^ (-1 : Int32)))] rfl (fun _ => rfl) rfl ?_
  refine dg_s (pc' := 15) [.int x2, .ref (x0 + 7), .int (x1 &&& ((m.1 (x0 + 6) (Int32.toNatClampNeg x2)) ^^^ (-1 : Int32)))] rfl (fun _ => rfl) rfl ?_
  refine dg_s (pc' := 16) [.int (m.1 (x0 + 7) (Int32.toNatClampNeg x2)), .int (x1 &&& ((m.1 (x0 + 6) (Int32.toNatClampNeg x2)) ^^^ (-1 : Int32)))] rfl (fun _ => rfl) rfl ?_
  refine dg_s (pc' := 17) [.int ((x1 &&& ((m.1 (x0 + 6) (Int32.toNatClampNeg x2)) ^^^ (-1 : Int32))) ||| (m.1 (x0 + 7) (Int32.toNatClampNeg x2)))] rfl (fun _ => rfl) rfl ?_
  exact dw_r (some (.inl (some (.int ((x1 &&& ((m.1 (x0 + 6) (Int32.toNatClampNeg x2)) ^^^ (-1 : Int32))) ||| (m.1 (x0 + 7) (Int32.toNatClampNeg x2)))), m))) rfl (fun _ => rfl) (kR _)
def H_X3_after : dc_H := fun As m k => match As with
  | [.ref x0, .int x1, .int x2] => k (some (.int (d_X3_after x0 x1 x2 m))) m
  | _ => dc_kz
theorem H_X3_after_ok {u : Nat} : dc_cok u 39 H_X3_after := fun M' hG N As m k P hz hP => by
  obtain rfl : ab_M_X3_after = M' := Option.some.inj hG
  unfold H_X3_after at hP
  split at hP
  · rename_i x0 x1 x2
    exact dc_pv.imp (k_X3_after (Φ := fun (t : Int32) r m' => P (k (some (.int t)) m) → P (k r m')) x0 x1 x2 m (fun _  h => h) rfl rfl rfl) (fun r m' h => h hP)
  · exact absurd hP hz
def C_X3_readyAt : List (Nat × dc_H) := [(36, H_X3_isReady)]
theorem CO_X3_readyAt {u : Nat} : dc_CO u C_X3_readyAt := dc_CO_cons H_X3_isReady_ok (dc_CO_nil)
def S_X3_readyAt : List (Nat × List Nat) := [(4, [0, 1, 2, 3])]
noncomputable def d_X3_readyAt_l4b (x0 : Nat) (x1 : Int32) (x2 : Int32) (x3 : Int32) (m : dc_M) : Option ((Int32 × Int32) ⊕ Int32) :=
  (if (Int32.toInt (m.1 x0 1)) ≤ (Int32.toInt x3) then some (Sum.inr (x2)) else (if (Int32.toInt (d_X3_isReady x0 x1 x3 m)) = 0 then some (Sum.inl (x2, (x3 + (1 : Int32)))) else some (Sum.inl ((x2 ||| ((1 : Int32) <<< (x3 &&& 31))), (x3 + (1 : Int32))))))
noncomputable def d_X3_readyAt_l4s (x0 : Nat) (x1 : Int32) (m : dc_M) : (Int32 × Int32) → Option ((Int32 × Int32) ⊕ Int32) := fun s => d_X3_readyAt_l4b x0 x1 s.1 s.2 m
noncomputable def d_X3_readyAt_l4 (x0 : Nat) (x1 : Int32) (x2 : Int32) (x3 : Int32) (m : dc_M) : Option Int32 := dc_lp (d_X3_readyAt_l4s x0 x1 m) (x2, x3)
set_option maxHeartbeats 8000000 in
theorem k_X3_readyAt_l4 {u : Nat} {Φ : (Option Int32) → Option Value → dc_M → Prop} (x0 : Nat) (x1 : Int32) (m : dc_M) (kR : ∀ (v : Int32), Φ (some (v)) (some (.int v)) m) : ∀ (N : Nat), ∀ (x2 : Int32) (x3 : Int32) (lv : ab_L), ab_lk lv 0 = some (.ref x0) → ab_lk lv 1 = some (.int x1) → ab_lk lv 2 = some (.int x2) → ab_lk lv 3 = some (.int x3) → dc_pv u N ab_M_X3_readyAt 4 lv [] m (Φ (d_X3_readyAt_l4 x0 x1 x2 x3 m)) := by
  intro N
  induction N with
  | zero => intros; exact dc_pv_zero
  | succ N ih =>
    intro x2 x3 lv f0 f1 f2 f3
    refine dc_ok (C := C_X3_readyAt) (S := S_X3_readyAt) CO_X3_readyAt 400 4 [(0, .ref x0), (1, .int x1), (2, .int x2), (3, .int x3)] lv [] m (dc_sub_cons f0 (dc_sub_cons f1 (dc_sub_cons f2 (dc_sub_cons f3 (dc_sub_nil))))) ?_
    unfold d_X3_readyAt_l4
    rw [dc_lp_eq]
    show (fun t x => dc_lf u N ab_M_X3_readyAt (Φ (Option.bind t (dc_bk (d_X3_readyAt_l4s x0 x1 m)))) x) (d_X3_readyAt_l4b x0 x1 x2 x3 m) _
    dsimp only
    unfold d_X3_readyAt_l4b
    refine dg_s (pc' := 5) [.int x3] rfl (fun _ => rfl) rfl ?_
    refine dg_s (pc' := 6) [.ref x0, .int x3] rfl (fun _ => rfl) rfl ?_
    refine dg_s (pc' := 9) [.int (m.1 x0 1), .int x3] rfl (fun _ => rfl) rfl ?_
    refine dw_if (fun t => Φ (Option.bind t (dc_bk (d_X3_readyAt_l4s x0 x1 m)))) ((Int32.toInt (m.1 x0 1)) ≤ (Int32.toInt x3)) [] 33 12 rfl (fun _ => rfl) (fun c0 => ?_) (fun c0 => ?_)
    · refine dw_g rfl ?_
      refine dg_s (pc' := 34) [.int x2] rfl (fun _ => rfl) rfl ?_
      exact dw_r (some (.inl (some (.int x2), m))) rfl (fun _ => rfl) (kR _)
    · refine dw_g rfl ?_
      refine dg_s (pc' := 13) [.ref x0] rfl (fun _ => rfl) rfl ?_
      refine dg_s (pc' := 14) [.int x1, .ref x0] rfl (fun _ => rfl) rfl ?_
      refine dg_s (pc' := 15) [.int x3, .int x1, .ref x0] rfl (fun _ => rfl) rfl ?_
      refine dg_s (pc' := 18) [.int (d_X3_isReady x0 x1 x3 m)] rfl (fun _ => rfl) rfl ?_
      refine dw_if (fun t => Φ (Option.bind t (dc_bk (d_X3_readyAt_l4s x0 x1 m)))) ((Int32.toInt (d_X3_isReady x0 x1 x3 m)) = 0) [] 27 21 rfl (fun _ => rfl) (fun c1 => ?_) (fun c1 => ?_)
      · refine dw_g rfl ?_
        refine dg_L (pc' := 30) [(3, .int (x3 + (1 : Int32))), (0, .ref x0), (1, .int x1), (2, .int x2)] [] rfl (fun _ => rfl) rfl ?_
        refine dw_s (pc' := 4) [] rfl (fun _ => rfl) ?_
        exact dw_j rfl (fun lv1 hv => ih x2 (x3 + (1 : Int32)) lv1 (hv.1 _ rfl) (hv.2.1 _ rfl) (hv.2.2.1 _ rfl) (hv.2.2.2.1 _ rfl))
      · refine dw_g rfl ?_
        refine dg_s (pc' := 22) [.int x2] rfl (fun _ => rfl) rfl ?_
        refine dg_s (pc' := 23) [.int (1 : Int32), .int x2] rfl (fun _ => rfl) rfl ?_
        refine dg_s (pc' := 24) [.int x3, .int (1 : Int32), .int x2] rfl (fun _ => rfl) rfl ?_
        refine dg_s (pc' := 25) [.int ((1 : Int32) <<< (x3 &&& 31)), .int x2] rfl (fun _ => rfl) rfl ?_
        refine dg_s (pc' := 26) [.int (x2 ||| ((1 : Int32) <<< (x3 &&& 31)))] rfl (fun _ => rfl) rfl ?_
        refine dg_L (pc' := 27) [(2, .int (x2 ||| ((1 : Int32) <<< (x3 &&& 31)))), (0, .ref x0), (1, .int x1), (3, .int x3)] [] rfl (fun _ => rfl) rfl ?_
        refine dg_L (pc' := 30) [(3, .int (x3 + (1 : Int32))), (2, .int (x2 ||| ((1 : Int32) <<< (x3 &&& 31)))), (0, .ref x0), (1, .int x1)] [] rfl (fun _ => rfl) rfl ?_
        refine dw_s (pc' := 4) [] rfl (fun _ => rfl) ?_
        exact dw_j rfl (fun lv1 hv => ih (x2 ||| ((1 : Int32) <<< (x3 &&& 31))) (x3 + (1 : Int32)) lv1 (hv.1 _ rfl) (hv.2.1 _ rfl) (hv.2.2.1 _ rfl) (hv.2.2.2.1 _ rfl))
noncomputable def d_X3_readyAt (x0 : Nat) (x1 : Int32) (m : dc_M) : Option Int32 :=
  (d_X3_readyAt_l4 x0 x1 (0 : Int32) (0 : Int32) m)
set_option maxHeartbeats 8000000 in
theorem k_X3_readyAt {u : Nat} {N : Nat} {Φ : (Option Int32) → Option Value → dc_M → Prop} (x0 : Nat) (x1 : Int32) (m : dc_M) (kR : ∀ (v : Int32), Φ (some (v)) (some (.int v)) m)  {lv : ab_L} (f0 : ab_lk lv 0 = some (.ref x0)) (f1 : ab_lk lv 1 = some (.int x1)) : dc_pv u N ab_M_X3_readyAt 0 lv [] m (Φ (d_X3_readyAt x0 x1 m)) := by
  refine dc_pv.mono (dc_ok (C := C_X3_readyAt) (S := S_X3_readyAt) CO_X3_readyAt 400 0 [(0, .ref x0), (1, .int x1)] lv [] m (dc_sub_cons f0 (dc_sub_cons f1 (dc_sub_nil))) ?_) (Nat.le_succ N)
  unfold d_X3_readyAt
  refine dg_s (pc' := 1) [.int (0 : Int32)] rfl (fun _ => rfl) rfl ?_
  refine dg_L (pc' := 2) [(2, .int (0 : Int32)), (0, .ref x0), (1, .int x1)] [] rfl (fun _ => rfl) rfl ?_
  refine dg_s (pc' := 3) [.int (0 : Int32)] rfl (fun _ => rfl) rfl ?_
  refine dw_L (pc' := 4) [(3, .int (0 : Int32)), (2, .int (0 : Int32)), (0, .ref x0), (1, .int x1)] [] rfl (fun _ => rfl) ?_
  exact dw_j rfl (fun lv1 hv => k_X3_readyAt_l4 (Φ := (fun t => Φ t)) x0 x1 m (fun _a  => kR _a) N  (0 : Int32) (0 : Int32) lv1 (hv.1 _ rfl) (hv.2.1 _ rfl) (hv.2.2.1 _ rfl) (hv.2.2.2.1 _ rfl))
noncomputable def H_X3_readyAt : dc_H := fun As m k => match As with
  | [.ref x0, .int x1] => (d_X3_readyAt x0 x1 m).bind (fun q => k (some (.int q)) m)
  | _ => dc_kz
theorem H_X3_readyAt_ok {u : Nat} : dc_cok u 40 H_X3_readyAt := fun M' hG N As m k P hz hP => by
  obtain rfl : ab_M_X3_readyAt = M' := Option.some.inj hG
  unfold H_X3_readyAt at hP
  split at hP
  · rename_i x0 x1
    exact dc_pv.imp (k_X3_readyAt (Φ := fun (t : Option Int32) r m' => P (t.bind (fun q => k (some (.int q)) m)) → P (k r m')) x0 x1 m (fun _  h => h) rfl rfl) (fun r m' h => h hP)
  · exact absurd hP hz
def C_X3_hasRoomForCure : List (Nat × dc_H) := []
theorem CO_X3_hasRoomForCure {u : Nat} : dc_CO u C_X3_hasRoomForCure := dc_CO_nil
def S_X3_hasRoomForCure : List (Nat × List Nat) := []
def d_X3_hasRoomForCure (x0 : Nat) (m : dc_M) : Int32 :=
  (if 6 ≤ (Int32.toInt (m.1 x0 0)) then (0 : Int32) else (if 16 < (Int32.toInt ((m.1 x0 1) + (2 : Int32))) then (0 : Int32) else (if 20 < (Int32.toInt ((m.1 x0 2) + (2 : Int32))) then (0 : Int32) else (1 : Int32))))
set_option maxHeartbeats 8000000 in
theorem k_X3_hasRoomForCure {u : Nat} {N : Nat} {Φ : Int32 → Option Value → dc_M → Prop} (x0 : Nat) (m : dc_M) (kR : ∀ (v : Int32), Φ (v) (some (.int v)) m)  {lv : ab_L} (f0 : ab_lk lv 0 = some (.ref x0)) : dc_pv u N ab_M_X3_hasRoomForCure 0 lv [] m (Φ (d_X3_hasRoomForCure x0 m)) := by
  refine dc_pv.mono (dc_ok (C := C_X3_hasRoomForCure) (S := S_X3_hasRoomForCure) CO_X3_hasRoomForCure 400 0 [(0, .ref x0)] lv [] m (dc_sub_cons f0 (dc_sub_nil)) ?_) (Nat.le_succ N)
  unfold d_X3_hasRoomForCure
  refine dg_s (pc' := 1) [.ref x0] rfl (fun _ => rfl) rfl ?_
  refine dg_s (pc' := 4) [.int (m.1 x0 0)] rfl (fun _ => rfl) rfl ?_
  refine dg_s (pc' := 6) [.int (6 : Int32), .int (m.1 x0 0)] rfl (fun _ => rfl) rfl ?_
  refine dw_if (fun t => Φ t) (6 ≤ (Int32.toInt (m.1 x0 0))) [] 35 9 rfl (fun _ => rfl) (fun c0 => ?_) (fun c0 => ?_)
  · refine dw_g rfl ?_
    refine dg_s (pc' := 36) [.int (0 : Int32)] rfl (fun _ => rfl) rfl ?_
    exact dw_r (some (.inl (some (.int (0 : Int32)), m))) rfl (fun _ => rfl) (kR _)
  · refine dw_g rfl ?_
    refine dg_s (pc' := 10) [.ref x0] rfl (fun _ => rfl) rfl ?_
    refine dg_s (pc' := 13) [.int (m.1 x0 1)] rfl (fun _ => rfl) rfl ?_
    refine dg_s (pc' := 14) [.int (2 : Int32), .int (m.1 x0 1)] rfl (fun _ => rfl) rfl ?_
    refine dg_s (pc' := 15) [.int ((m.1 x0 1) + (2 : Int32))] rfl (fun _ => rfl) rfl ?_
    refine dg_s (pc' := 17) [.int (16 : Int32), .int ((m.1 x0 1) + (2 : Int32))] rfl (fun _ => rfl) rfl ?_
    refine dw_if (fun t => Φ t) (16 < (Int32.toInt ((m.1 x0 1) + (2 : Int32)))) [] 35 20 rfl (fun _ => rfl) (fun c1 => ?_) (fun c1 => ?_)
    · refine dw_g rfl ?_
      refine dg_s (pc' := 36) [.int (0 : Int32)] rfl (fun _ => rfl) rfl ?_
      exact dw_r (some (.inl (some (.int (0 : Int32)), m))) rfl (fun _ => rfl) (kR _)
    · refine dw_g rfl ?_
      refine dg_s (pc' := 21) [.ref x0] rfl (fun _ => rfl) rfl ?_
      refine dg_s (pc' := 24) [.int (m.1 x0 2)] rfl (fun _ => rfl) rfl ?_
      refine dg_s (pc' := 25) [.int (2 : Int32), .int (m.1 x0 2)] rfl (fun _ => rfl) rfl ?_
      refine dg_s (pc' := 26) [.int ((m.1 x0 2) + (2 : Int32))] rfl (fun _ => rfl) rfl ?_
      refine dg_s (pc' := 28) [.int (20 : Int32), .int ((m.1 x0 2) + (2 : Int32))] rfl (fun _ => rfl) rfl ?_
      refine dw_if (fun t => Φ t) (20 < (Int32.toInt ((m.1 x0 2) + (2 : Int32)))) [] 35 31 rfl (fun _ => rfl) (fun c2 => ?_) (fun c2 => ?_)
      · refine dw_g rfl ?_
        refine dg_s (pc' := 36) [.int (0 : Int32)] rfl (fun _ => rfl) rfl ?_
        exact dw_r (some (.inl (some (.int (0 : Int32)), m))) rfl (fun _ => rfl) (kR _)
      · refine dw_g rfl ?_
        refine dg_s (pc' := 32) [.int (1 : Int32)] rfl (fun _ => rfl) rfl ?_
        refine dg_s (pc' := 36) [.int (1 : Int32)] rfl (fun _ => rfl) rfl ?_
        exact dw_r (some (.inl (some (.int (1 : Int32)), m))) rfl (fun _ => rfl) (kR _)
def H_X3_hasRoomForCure : dc_H := fun As m k => match As with
  | [.ref x0] => k (some (.int (d_X3_hasRoomForCure x0 m))) m
  | _ => dc_kz
theorem H_X3_hasRoomForCure_ok {u : Nat} : dc_cok u 41 H_X3_hasRoomForCure := fun M' hG N As m k P hz hP => by
  obtain rfl : ab_M_X3_hasRoomForCure = M' := Option.some.inj hG
  unfold H_X3_hasRoomForCure at hP
  split at hP
  · rename_i x0
    exact dc_pv.imp (k_X3_hasRoomForCure (Φ := fun (t : Int32) r m' => P (k (some (.int t)) m) → P (k r m')) x0 m (fun _  h => h) rfl) (fun r m' h => h hP)
  · exact absurd hP hz
noncomputable def C_X3_freeLetter : List (Nat × dc_H) := [(31, H_X3_wireCalled)]
theorem CO_X3_freeLetter {u : Nat} : dc_CO u C_X3_freeLetter := dc_CO_cons H_X3_wireCalled_ok (dc_CO_nil)
def S_X3_freeLetter : List (Nat × List Nat) := [(2, [0, 1])]
noncomputable def d_X3_freeLetter_l2b (x0 : Nat) (x1 : Int32) (m : dc_M) : Option (Int32 ⊕ Int32) :=
  (if 26 ≤ (Int32.toInt x1) then some (Sum.inr ((26 : Int32))) else ((d_X3_wireCalled x0 x1 m).bind (fun q1 => (if 0 ≤ (Int32.toInt q1) then some (Sum.inl (x1 + (1 : Int32))) else some (Sum.inr (x1))))))
noncomputable def d_X3_freeLetter_l2s (x0 : Nat) (m : dc_M) : Int32 → Option (Int32 ⊕ Int32) := fun s => d_X3_freeLetter_l2b x0 s m
noncomputable def d_X3_freeLetter_l2 (x0 : Nat) (x1 : Int32) (m : dc_M) : Option Int32 := dc_lp (d_X3_freeLetter_l2s x0 m) x1
set_option maxHeartbeats 8000000 in
theorem k_X3_freeLetter_l2 {u : Nat} {Φ : (Option Int32) → Option Value → dc_M → Prop} (x0 : Nat) (m : dc_M) (kR : ∀ (v : Int32), Φ (some (v)) (some (.int v)) m) : ∀ (N : Nat), ∀ (x1 : Int32) (lv : ab_L), ab_lk lv 0 = some (.ref x0) → ab_lk lv 1 = some (.int x1) → dc_pv u N ab_M_X3_freeLetter 2 lv [] m (Φ (d_X3_freeLetter_l2 x0 x1 m)) := by
  intro N
  induction N with
  | zero => intros; exact dc_pv_zero
  | succ N ih =>
    intro x1 lv f0 f1
    refine dc_ok (C := C_X3_freeLetter) (S := S_X3_freeLetter) CO_X3_freeLetter 400 2 [(0, .ref x0), (1, .int x1)] lv [] m (dc_sub_cons f0 (dc_sub_cons f1 (dc_sub_nil))) ?_
    unfold d_X3_freeLetter_l2
    rw [dc_lp_eq]
    show (fun t x => dc_lf u N ab_M_X3_freeLetter (Φ (Option.bind t (dc_bk (d_X3_freeLetter_l2s x0 m)))) x) (d_X3_freeLetter_l2b x0 x1 m) _
    dsimp only
    unfold d_X3_freeLetter_l2b
    refine dg_s (pc' := 3) [.int x1] rfl (fun _ => rfl) rfl ?_
    refine dg_s (pc' := 5) [.int (26 : Int32), .int x1] rfl (fun _ => rfl) rfl ?_
    refine dw_if (fun t => Φ (Option.bind t (dc_bk (d_X3_freeLetter_l2s x0 m)))) (26 ≤ (Int32.toInt x1)) [] 24 8 rfl (fun _ => rfl) (fun c0 => ?_) (fun c0 => ?_)
    · refine dw_g rfl ?_
      refine dg_s (pc' := 26) [.int (26 : Int32)] rfl (fun _ => rfl) rfl ?_
      exact dw_r (some (.inl (some (.int (26 : Int32)), m))) rfl (fun _ => rfl) (kR _)
    · refine dw_g rfl ?_
      refine dg_s (pc' := 9) [.ref x0] rfl (fun _ => rfl) rfl ?_
      refine dg_s (pc' := 10) [.int x1, .ref x0] rfl (fun _ => rfl) rfl ?_
      refine dw_b (fun t => Φ (Option.bind t (dc_bk (d_X3_freeLetter_l2s x0 m)))) (pc' := 13) (fun q1 => [.int q1]) (fun q1 => m) rfl (fun _ => rfl) (fun q1 => ?_)
      refine dw_g rfl ?_
      refine dw_if (fun t => Φ (Option.bind t (dc_bk (d_X3_freeLetter_l2s x0 m)))) (0 ≤ (Int32.toInt q1)) [] 18 16 rfl (fun _ => rfl) (fun c1 => ?_) (fun c1 => ?_)
      · refine dw_g rfl ?_
        refine dg_L (pc' := 21) [(1, .int (x1 + (1 : Int32))), (0, .ref x0)] [] rfl (fun _ => rfl) rfl ?_
        refine dw_s (pc' := 2) [] rfl (fun _ => rfl) ?_
        exact dw_j rfl (fun lv1 hv => ih (x1 + (1 : Int32)) lv1 (hv.1 _ rfl) (hv.2.1 _ rfl))
      · refine dw_g rfl ?_
        refine dg_s (pc' := 17) [.int x1] rfl (fun _ => rfl) rfl ?_
        exact dw_r (some (.inl (some (.int x1), m))) rfl (fun _ => rfl) (kR _)
noncomputable def d_X3_freeLetter (x0 : Nat) (m : dc_M) : Option Int32 :=
  (d_X3_freeLetter_l2 x0 (0 : Int32) m)
set_option maxHeartbeats 8000000 in
theorem k_X3_freeLetter {u : Nat} {N : Nat} {Φ : (Option Int32) → Option Value → dc_M → Prop} (x0 : Nat) (m : dc_M) (kR : ∀ (v : Int32), Φ (some (v)) (some (.int v)) m)  {lv : ab_L} (f0 : ab_lk lv 0 = some (.ref x0)) : dc_pv u N ab_M_X3_freeLetter 0 lv [] m (Φ (d_X3_freeLetter x0 m)) := by
  refine dc_pv.mono (dc_ok (C := C_X3_freeLetter) (S := S_X3_freeLetter) CO_X3_freeLetter 400 0 [(0, .ref x0)] lv [] m (dc_sub_cons f0 (dc_sub_nil)) ?_) (Nat.le_succ N)
  unfold d_X3_freeLetter
  refine dg_s (pc' := 1) [.int (0 : Int32)] rfl (fun _ => rfl) rfl ?_
  refine dw_L (pc' := 2) [(1, .int (0 : Int32)), (0, .ref x0)] [] rfl (fun _ => rfl) ?_
  exact dw_j rfl (fun lv1 hv => k_X3_freeLetter_l2 (Φ := (fun t => Φ t)) x0 m (fun _a  => kR _a) N  (0 : Int32) lv1 (hv.1 _ rfl) (hv.2.1 _ rfl))
noncomputable def H_X3_freeLetter : dc_H := fun As m k => match As with
  | [.ref x0] => (d_X3_freeLetter x0 m).bind (fun q => k (some (.int q)) m)
  | _ => dc_kz
theorem H_X3_freeLetter_ok {u : Nat} : dc_cok u 44 H_X3_freeLetter := fun M' hG N As m k P hz hP => by
  obtain rfl : ab_M_X3_freeLetter = M' := Option.some.inj hG
  unfold H_X3_freeLetter at hP
  split at hP
  · rename_i x0
    exact dc_pv.imp (k_X3_freeLetter (Φ := fun (t : Option Int32) r m' => P (t.bind (fun q => k (some (.int q)) m)) → P (k r m')) x0 m (fun _  h => h) rfl) (fun r m' h => h hP)
  · exact absurd hP hz
noncomputable def C_X3_handOver : List (Nat × dc_H) := [(35, H_X3_addPlace)]
theorem CO_X3_handOver {u : Nat} : dc_CO u C_X3_handOver := dc_CO_cons H_X3_addPlace_ok (dc_CO_nil)
def S_X3_handOver : List (Nat × List Nat) := [(2, [0, 1, 2, 3]), (51, [0, 1, 2])]
noncomputable def d_X3_handOver_b51 (x0 : Nat) (x1 : Int32) (x2 : Int32) (m : dc_M) : Option dc_M :=
  ((d_X3_addPlace x0 ((1 : Int32) <<< (x1 &&& 31)) ((1 : Int32) <<< (x2 &&& 31)) (0 : Int32) (dc_wi (dc_wi m (x0 + 7) (Int32.toNatClampNeg x2) (m.1 (x0 + 7) (Int32.toNatClampNeg x1))) (x0 + 7) (Int32.toNatClampNeg x1) (0 : Int32))).bind (fun q1 => some (q1)))
set_option maxHeartbeats 8000000 in
theorem k_X3_handOver_b51 {u : Nat} {N : Nat} {Φ : (Option dc_M) → Option Value → dc_M → Prop} (x0 : Nat) (x1 : Int32) (x2 : Int32) (m : dc_M) (kR : ∀  (m : dc_M), Φ (some (m)) (none) m)  {lv : ab_L} (f0 : ab_lk lv 0 = some (.ref x0)) (f1 : ab_lk lv 1 = some (.int x1)) (f2 : ab_lk lv 2 = some (.int x2)) : dc_pv u N ab_M_X3_handOver 51 lv [] m (Φ (d_X3_handOver_b51 x0 x1 x2 m)) := by
  refine dc_pv.mono (dc_ok (C := C_X3_handOver) (S := S_X3_handOver) CO_X3_handOver 400 51 [(0, .ref x0), (1, .int x1), (2, .int x2)] lv [] m (dc_sub_cons f0 (dc_sub_cons f1 (dc_sub_cons f2 (dc_sub_nil)))) ?_) (Nat.le_succ N)
  unfold d_X3_handOver_b51
  refine dg_s (pc' := 52) [.ref x0] rfl (fun _ => rfl) rfl ?_
  refine dg_s (pc' := 55) [.ref (x0 + 7)] rfl (fun _ => rfl) rfl ?_
  refine dg_s (pc' := 56) [.int x2, .ref (x0 + 7)] rfl (fun _ => rfl) rfl ?_
  refine dg_s (pc' := 57) [.ref x0, .int x2, .ref (x0 + 7)] rfl (fun _ => rfl) rfl ?_
  refine dg_s (pc' := 60) [.ref (x0 + 7), .int x2, .ref (x0 + 7)] rfl (fun _ => rfl) rfl ?_
  refine dg_s (pc' := 61) [.int x1, .ref (x0 + 7), .int x2, .ref (x0 + 7)] rfl (fun _ => rfl) rfl ?_
  refine dg_s (pc' := 62) [.int (m.1 (x0 + 7) (Int32.toNatClampNeg x1)), .int x2, .ref (x0 + 7)] rfl (fun _ => rfl) rfl ?_
  refine dg_m (pc' := 63) (dc_wi m (x0 + 7) (Int32.toNatClampNeg x2) (m.1 (x0 + 7) (Int32.toNatClampNeg x1))) [] rfl (fun _ => rfl) rfl ?_
  refine dg_s (pc' := 64) [.ref x0] rfl (fun _ => rfl) rfl ?_
  refine dg_s (pc' := 67) [.ref (x0 + 7)] rfl (fun _ => rfl) rfl ?_
  refine dg_s (pc' := 68) [.int x1, .ref (x0 + 7)] rfl (fun _ => rfl) rfl ?_
  refine dg_s (pc' := 69) [.int (0 : Int32), .int x1, .ref (x0 + 7)] rfl (fun _ => rfl) rfl ?_
  refine dg_m (pc' := 70) (dc_wi (dc_wi m (x0 + 7) (Int32.toNatClampNeg x2) (m.1 (x0 + 7) (Int32.toNatClampNeg x1))) (x0 + 7) (Int32.toNatClampNeg x1) (0 : Int32)) [] rfl (fun _ => rfl) rfl ?_
  refine dg_s (pc' := 71) [.ref x0] rfl (fun _ => rfl) rfl ?_
  refine dg_s (pc' := 72) [.int (1 : Int32), .ref x0] rfl (fun _ => rfl) rfl ?_
  refine dg_s (pc' := 73) [.int x1, .int (1 : Int32), .ref x0] rfl (fun _ => rfl) rfl ?_
  refine dg_s (pc' := 74) [.int ((1 : Int32) <<< (x1 &&& 31)), .ref x0] rfl (fun _ => rfl) rfl ?_
  refine dg_s (pc' := 75) [.int (1 : Int32), .int ((1 : Int32) <<< (x1 &&& 31)), .ref x0] rfl (fun _ => rfl) rfl ?_
  refine dg_s (pc' := 76) [.int x2, .int (1 : Int32), .int ((1 : Int32) <<< (x1 &&& 31)), .ref x0] rfl (fun _ => rfl) rfl ?_
  refine dg_s (pc' := 77) [.int ((1 : Int32) <<< (x2 &&& 31)), .int ((1 : Int32) <<< (x1 &&& 31)), .ref x0] rfl (fun _ => rfl) rfl ?_
  refine dg_s (pc' := 78) [.int (0 : Int32), .int ((1 : Int32) <<< (x2 &&& 31)), .int ((1 : Int32) <<< (x1 &&& 31)), .ref x0] rfl (fun _ => rfl) rfl ?_
  refine dw_b (fun t => Φ t) (pc' := 81) (fun q1 => []) (fun q1 => q1) rfl (fun _ => rfl) (fun q1 => ?_)
  refine dw_g rfl ?_
  exact dw_r (some (.inl (none, q1))) rfl (fun _ => rfl) (kR _)
noncomputable def d_X3_handOver_l2b (x0 : Nat) (x1 : Int32) (x2 : Int32) (x3 : Int32) (m : dc_M) : Option ((Int32 × dc_M) ⊕ dc_M) :=
  (if (Int32.toInt (m.1 x0 2)) ≤ (Int32.toInt x3) then ((d_X3_handOver_b51 x0 x1 x2 m).map (fun z => Sum.inr (z))) else (if (Int32.toInt (((m.1 (x0 + 9) (Int32.toNatClampNeg x3)) >>> (x1 &&& 31)) &&& (1 : Int32))) = 0 then some (Sum.inl ((x3 + (1 : Int32)), m)) else some (Sum.inl ((x3 + (1 : Int32)), (dc_wi m (x0 + 9) (Int32.toNatClampNeg x3) (((m.1 (x0 + 9) (Int32.toNatClampNeg x3)) &&& (((1 : Int32) <<< (x1 &&& 31)) ^^^ (-1 : Int32))) ||| ((1 : Int32) <<< (x2 &&& 31))))))))
noncomputable def d_X3_handOver_l2s (x0 : Nat) (x1 : Int32) (x2 : Int32) : (Int32 × dc_M) → Option ((Int32 × dc_M) ⊕ dc_M) := fun s => d_X3_handOver_l2b x0 x1 x2 s.1 s.2
noncomputable def d_X3_handOver_l2 (x0 : Nat) (x1 : Int32) (x2 : Int32) (x3 : Int32) (m : dc_M) : Option dc_M := dc_lp (d_X3_handOver_l2s x0 x1 x2) (x3, m)
set_option maxHeartbeats 8000000 in
theorem k_X3_handOver_l2 {u : Nat} {Φ : (Option dc_M) → Option Value → dc_M → Prop} (x0 : Nat) (x1 : Int32) (x2 : Int32) (kR : ∀  (m : dc_M), Φ (some (m)) (none) m) : ∀ (N : Nat), ∀ (x3 : Int32) (m : dc_M) (lv : ab_L), ab_lk lv 0 = some (.ref x0) → ab_lk lv 1 = some (.int x1) → ab_lk lv 2 = some (.int x2) → ab_lk lv 3 = some (.int x3) → dc_pv u N ab_M_X3_handOver 2 lv [] m (Φ (d_X3_handOver_l2 x0 x1 x2 x3 m)) := by
  intro N
  induction N with
  | zero => intros; exact dc_pv_zero
  | succ N ih =>
    intro x3 m lv f0 f1 f2 f3
    refine dc_ok (C := C_X3_handOver) (S := S_X3_handOver) CO_X3_handOver 400 2 [(0, .ref x0), (1, .int x1), (2, .int x2), (3, .int x3)] lv [] m (dc_sub_cons f0 (dc_sub_cons f1 (dc_sub_cons f2 (dc_sub_cons f3 (dc_sub_nil))))) ?_
    unfold d_X3_handOver_l2
    rw [dc_lp_eq]
    show (fun t x => dc_lf u N ab_M_X3_handOver (Φ (Option.bind t (dc_bk (d_X3_handOver_l2s x0 x1 x2)))) x) (d_X3_handOver_l2b x0 x1 x2 x3 m) _
    dsimp only
    unfold d_X3_handOver_l2b
    refine dg_s (pc' := 3) [.int x3] rfl (fun _ => rfl) rfl ?_
    refine dg_s (pc' := 4) [.ref x0, .int x3] rfl (fun _ => rfl) rfl ?_
    refine dg_s (pc' := 7) [.int (m.1 x0 2), .int x3] rfl (fun _ => rfl) rfl ?_
    refine dw_if (fun t => Φ (Option.bind t (dc_bk (d_X3_handOver_l2s x0 x1 x2)))) ((Int32.toInt (m.1 x0 2)) ≤ (Int32.toInt x3)) [] 51 10 rfl (fun _ => rfl) (fun c0 => ?_) (fun c0 => ?_)
    · exact dw_j rfl (fun lv1 hv => k_X3_handOver_b51 (Φ := (fun t => Φ (Option.bind (t.map (fun z => Sum.inr (z))) (dc_bk (d_X3_handOver_l2s x0 x1 x2))))) x0 x1 x2 m (fun _b => kR _b)  (hv.1 _ rfl) (hv.2.1 _ rfl) (hv.2.2.1 _ rfl))
    · refine dw_g rfl ?_
      refine dg_s (pc' := 11) [.ref x0] rfl (fun _ => rfl) rfl ?_
      refine dg_s (pc' := 14) [.ref (x0 + 9)] rfl (fun _ => rfl) rfl ?_
      refine dg_s (pc' := 15) [.int x3, .ref (x0 + 9)] rfl (fun _ => rfl) rfl ?_
      refine dg_s (pc' := 16) [.int (m.1 (x0 + 9) (Int32.toNatClampNeg x3))] rfl (fun _ => rfl) rfl ?_
      refine dg_s (pc' := 17) [.int x1, .int (m.1 (x0 + 9) (Int32.toNatClampNeg x3))] rfl (fun _ => rfl) rfl ?_
      refine dg_s (pc' := 18) [.int ((m.1 (x0 + 9) (Int32.toNatClampNeg x3)) >>> (x1 &&& 31))] rfl (fun _ => rfl) rfl ?_
      refine dg_s (pc' := 19) [.int (1 : Int32), .int ((m.1 (x0 + 9) (Int32.toNatClampNeg x3)) >>> (x1 &&& 31))] rfl (fun _ => rfl) rfl ?_
      refine dg_s (pc' := 20) [.int (((m.1 (x0 + 9) (Int32.toNatClampNeg x3)) >>> (x1 &&& 31)) &&& (1 : Int32))] rfl (fun _ => rfl) rfl ?_
      refine dw_if (fun t => Φ (Option.bind t (dc_bk (d_X3_handOver_l2s x0 x1 x2)))) ((Int32.toInt (((m.1 (x0 + 9) (Int32.toNatClampNeg x3)) >>> (x1 &&& 31)) &&& (1 : Int32))) = 0) [] 45 23 rfl (fun _ => rfl) (fun c1 => ?_) (fun c1 => ?_)
      · refine dw_g rfl ?_
        refine dg_L (pc' := 48) [(3, .int (x3 + (1 : Int32))), (0, .ref x0), (1, .int x1), (2, .int x2)] [] rfl (fun _ => rfl) rfl ?_
        refine dw_s (pc' := 2) [] rfl (fun _ => rfl) ?_
        exact dw_j rfl (fun lv1 hv => ih (x3 + (1 : Int32)) m lv1 (hv.1 _ rfl) (hv.2.1 _ rfl) (hv.2.2.1 _ rfl) (hv.2.2.2.1 _ rfl))
      · refine dw_g rfl ?_
        refine dg_s (pc' := 24) [.ref x0] rfl (fun _ => rfl) rfl ?_
        refine dg_s (pc' := 27) [.ref (x0 + 9)] rfl (fun _ => rfl) rfl ?_
        refine dg_s (pc' := 28) [.int x3, .ref (x0 + 9)] rfl (fun _ => rfl) rfl ?_
        refine dg_s (pc' := 29) [.ref x0, .int x3, .ref (x0 + 9)] rfl (fun _ => rfl) rfl ?_
        refine dg_s (pc' := 32) [.ref (x0 + 9), .int x3, .ref (x0 + 9)] rfl (fun _ => rfl) rfl ?_
        refine dg_s (pc' := 33) [.int x3, .ref (x0 + 9), .int x3, .ref (x0 + 9)] rfl (fun _ => rfl) rfl ?_
        refine dg_s (pc' := 34) [.int (m.1 (x0 + 9) (Int32.toNatClampNeg x3)), .int x3, .ref (x0 + 9)] rfl (fun _ => rfl) rfl ?_
        refine dg_s (pc' := 35) [.int (1 : Int32), .int (m.1 (x0 + 9) (Int32.toNatClampNeg x3)), .int x3, .ref (x0 + 9)] rfl (fun _ => rfl) rfl ?_
        refine dg_s (pc' := 36) [.int x1, .int (1 : Int32), .int (m.1 (x0 + 9) (Int32.toNatClampNeg x3)), .int x3, .ref (x0 + 9)] rfl (fun _ => rfl) rfl ?_
        refine dg_s (pc' := 37) [.int ((1 : Int32) <<< (x1 &&& 31)), .int (m.1 (x0 + 9) (Int32.toNatClampNeg x3)), .int x3, .ref (x0 + 9)] rfl (fun _ => rfl) rfl ?_
        refine dg_s (pc' := 38) [.int (-1 : Int32), .int ((1 : Int32) <<< (x1 &&& 31)), .int (m.1 (x0 + 9) (Int32.toNatClampNeg x3)), .int x3, .ref (x0 + 9)] rfl (fun _ => rfl) rfl ?_
        refine dg_s (pc' := 39) [.int (((1 : Int32) <<< (x1 &&& 31)) ^^^ (-1 : Int32)), .int (m.1 (x0 + 9) (Int32.toNatClampNeg x3)), .int x3, .ref (x0 + 9)] rfl (fun _ => rfl) rfl ?_
        refine dg_s (pc' := 40) [.int ((m.1 (x0 + 9) (Int32.toNatClampNeg x3)) &&& (((1 : Int32) <<< (x1 &&& 31)) ^^^ (-1 : Int32))), .int x3, .ref (x0 + 9)] rfl (fun _ => rfl) rfl ?_
        refine dg_s (pc' := 41) [.int (1 : Int32), .int ((m.1 (x0 + 9) (Int32.toNatClampNeg x3)) &&& (((1 : Int32) <<< (x1 &&& 31)) ^^^ (-1 : Int32))), .int x3, .ref (x0 + 9)] rfl (fun _ => rfl) rfl ?_
        refine dg_s (pc' := 42) [.int x2, .int (1 : Int32), .int ((m.1 (x0 + 9) (Int32.toNatClampNeg x3)) &&& (((1 : Int32) <<< (x1 &&& 31)) ^^^ (-1 : Int32))), .int x3, .ref (x0 + 9)] rfl (fun _ => rfl) rfl ?_
        refine dg_s (pc' := 43) [.int ((1 : Int32) <<< (x2 &&& 31)), .int ((m.1 (x0 + 9) (Int32.toNatClampNeg x3)) &&& (((1 : Int32) <<< (x1 &&& 31)) ^^^ (-1 : Int32))), .int x3, .ref (x0 + 9)] rfl (fun _ => rfl) rfl ?_
        refine dg_s (pc' := 44) [.int (((m.1 (x0 + 9) (Int32.toNatClampNeg x3)) &&& (((1 : Int32) <<< (x1 &&& 31)) ^^^ (-1 : Int32))) ||| ((1 : Int32) <<< (x2 &&& 31))), .int x3, .ref (x0 + 9)] rfl (fun _ => rfl) rfl ?_
        refine dg_m (pc' := 45) (dc_wi m (x0 + 9) (Int32.toNatClampNeg x3) (((m.1 (x0 + 9) (Int32.toNatClampNeg x3)) &&& (((1 : Int32) <<< (x1 &&& 31)) ^^^ (-1 : Int32))) ||| ((1 : Int32) <<< (x2 &&& 31)))) [] rfl (fun _ => rfl) rfl ?_
        refine dg_L (pc' := 48) [(3, .int (x3 + (1 : Int32))), (0, .ref x0), (1, .int x1), (2, .int x2)] [] rfl (fun _ => rfl) rfl ?_
        refine dw_s (pc' := 2) [] rfl (fun _ => rfl) ?_
        exact dw_j rfl (fun lv1 hv => ih (x3 + (1 : Int32)) (dc_wi m (x0 + 9) (Int32.toNatClampNeg x3) (((m.1 (x0 + 9) (Int32.toNatClampNeg x3)) &&& (((1 : Int32) <<< (x1 &&& 31)) ^^^ (-1 : Int32))) ||| ((1 : Int32) <<< (x2 &&& 31)))) lv1 (hv.1 _ rfl) (hv.2.1 _ rfl) (hv.2.2.1 _ rfl) (hv.2.2.2.1 _ rfl))
noncomputable def d_X3_handOver (x0 : Nat) (x1 : Int32) (x2 : Int32) (m : dc_M) : Option dc_M :=
  (d_X3_handOver_l2 x0 x1 x2 (0 : Int32) m)
set_option maxHeartbeats 8000000 in
theorem k_X3_handOver {u : Nat} {N : Nat} {Φ : (Option dc_M) → Option Value → dc_M → Prop} (x0 : Nat) (x1 : Int32) (x2 : Int32) (m : dc_M) (kR : ∀  (m : dc_M), Φ (some (m)) (none) m)  {lv : ab_L} (f0 : ab_lk lv 0 = some (.ref x0)) (f1 : ab_lk lv 1 = some (.int x1)) (f2 : ab_lk lv 2 = some (.int x2)) : dc_pv u N ab_M_X3_handOver 0 lv [] m (Φ (d_X3_handOver x0 x1 x2 m)) := by
  refine dc_pv.mono (dc_ok (C := C_X3_handOver) (S := S_X3_handOver) CO_X3_handOver 400 0 [(0, .ref x0), (1, .int x1), (2, .int x2)] lv [] m (dc_sub_cons f0 (dc_sub_cons f1 (dc_sub_cons f2 (dc_sub_nil)))) ?_) (Nat.le_succ N)
  unfold d_X3_handOver
  refine dg_s (pc' := 1) [.int (0 : Int32)] rfl (fun _ => rfl) rfl ?_
  refine dw_L (pc' := 2) [(3, .int (0 : Int32)), (0, .ref x0), (1, .int x1), (2, .int x2)] [] rfl (fun _ => rfl) ?_
  exact dw_j rfl (fun lv1 hv => k_X3_handOver_l2 (Φ := (fun t => Φ t)) x0 x1 x2 (fun _b => kR _b) N  (0 : Int32) m lv1 (hv.1 _ rfl) (hv.2.1 _ rfl) (hv.2.2.1 _ rfl) (hv.2.2.2.1 _ rfl))
noncomputable def H_X3_handOver : dc_H := fun As m k => match As with
  | [.ref x0, .int x1, .int x2] => (d_X3_handOver x0 x1 x2 m).bind (fun q => k (none) q)
  | _ => dc_kz
theorem H_X3_handOver_ok {u : Nat} : dc_cok u 43 H_X3_handOver := fun M' hG N As m k P hz hP => by
  obtain rfl : ab_M_X3_handOver = M' := Option.some.inj hG
  unfold H_X3_handOver at hP
  split at hP
  · rename_i x0 x1 x2
    exact dc_pv.imp (k_X3_handOver (Φ := fun (t : Option dc_M) r m' => P (t.bind (fun q => k (none) q)) → P (k r m')) x0 x1 x2 m (fun _ h => h) rfl rfl rfl) (fun r m' h => h hP)
  · exact absurd hP hz
noncomputable def C_X3_addWireBehind : List (Nat × dc_H) := [(34, H_X3_addEvent), (33, H_X3_addWire), (44, H_X3_freeLetter), (43, H_X3_handOver)]
theorem CO_X3_addWireBehind {u : Nat} : dc_CO u C_X3_addWireBehind := dc_CO_cons H_X3_addEvent_ok (dc_CO_cons H_X3_addWire_ok (dc_CO_cons H_X3_freeLetter_ok (dc_CO_cons H_X3_handOver_ok (dc_CO_nil))))
def S_X3_addWireBehind : List (Nat × List Nat) := []
noncomputable def d_X3_addWireBehind (x0 : Nat) (x1 : Int32) (x2 : Int32) (m : dc_M) : Option dc_M :=
  ((d_X3_freeLetter x0 m).bind (fun q1 => (dc_let (d_X3_addWire x0 q1 (2 : Int32) m) (fun q2 => (dc_let (d_X3_addEvent x0 q2.1 (1 : Int32) (0 : Int32) q2.2) (fun q3 => (dc_let (d_X3_addEvent x0 q2.1 (0 : Int32) (0 : Int32) q3.2) (fun q4 => (if (Int32.toInt q3.1) < 0 then some (q4.2) else (if (Int32.toInt q4.1) < 0 then some (q4.2) else ((d_X3_handOver x0 x1 q3.1 q4.2).bind (fun q5 => ((d_X3_handOver x0 x2 q4.1 q5).bind (fun q6 => some (q6)))))))))))))))
set_option maxHeartbeats 8000000 in
theorem k_X3_addWireBehind {u : Nat} {N : Nat} {Φ : (Option dc_M) → Option Value → dc_M → Prop} (x0 : Nat) (x1 : Int32) (x2 : Int32) (m : dc_M) (kR : ∀  (m : dc_M), Φ (some (m)) (none) m)  {lv : ab_L} (f0 : ab_lk lv 0 = some (.ref x0)) (f1 : ab_lk lv 1 = some (.int x1)) (f2 : ab_lk lv 2 = some (.int x2)) : dc_pv u N ab_M_X3_addWireBehind 0 lv [] m (Φ (d_X3_addWireBehind x0 x1 x2 m)) := by
  refine dc_pv.mono (dc_ok (C := C_X3_addWireBehind) (S := S_X3_addWireBehind) CO_X3_addWireBehind 400 0 [(0, .ref x0), (1, .int x1), (2, .int x2)] lv [] m (dc_sub_cons f0 (dc_sub_cons f1 (dc_sub_cons f2 (dc_sub_nil)))) ?_) (Nat.le_succ N)
  unfold d_X3_addWireBehind
  refine dg_s (pc' := 1) [.ref x0] rfl (fun _ => rfl) rfl ?_
  refine dg_s (pc' := 2) [.ref x0, .ref x0] rfl (fun _ => rfl) rfl ?_
  refine dw_b (fun t => Φ t) (pc' := 5) (fun q1 => [.int q1, .ref x0]) (fun q1 => m) rfl (fun _ => rfl) (fun q1 => ?_)
  refine dw_g rfl ?_
  refine dg_s (pc' := 6) [.int (2 : Int32), .int q1, .ref x0] rfl (fun _ => rfl) rfl ?_
  refine dw_l (fun t => Φ t) (pc' := 9) (fun q2 => [.int q2.1]) (fun q2 => q2.2) rfl (fun _ => rfl) (fun q2 => ?_)
  refine dw_g rfl ?_
  refine dg_L (pc' := 10) [(3, .int q2.1), (0, .ref x0), (1, .int x1), (2, .int x2)] [] rfl (fun _ => rfl) rfl ?_
  refine dg_s (pc' := 11) [.ref x0] rfl (fun _ => rfl) rfl ?_
  refine dg_s (pc' := 12) [.int q2.1, .ref x0] rfl (fun _ => rfl) rfl ?_
  refine dg_s (pc' := 13) [.int (1 : Int32), .int q2.1, .ref x0] rfl (fun _ => rfl) rfl ?_
  refine dg_s (pc' := 14) [.int (0 : Int32), .int (1 : Int32), .int q2.1, .ref x0] rfl (fun _ => rfl) rfl ?_
  refine dw_l (fun t => Φ t) (pc' := 17) (fun q3 => [.int q3.1]) (fun q3 => q3.2) rfl (fun _ => rfl) (fun q3 => ?_)
  refine dw_g rfl ?_
  refine dg_L (pc' := 19) [(4, .int q3.1), (3, .int q2.1), (0, .ref x0), (1, .int x1), (2, .int x2)] [] rfl (fun _ => rfl) rfl ?_
  refine dg_s (pc' := 20) [.ref x0] rfl (fun _ => rfl) rfl ?_
  refine dg_s (pc' := 21) [.int q2.1, .ref x0] rfl (fun _ => rfl) rfl ?_
  refine dg_s (pc' := 22) [.int (0 : Int32), .int q2.1, .ref x0] rfl (fun _ => rfl) rfl ?_
  refine dg_s (pc' := 23) [.int (0 : Int32), .int (0 : Int32), .int q2.1, .ref x0] rfl (fun _ => rfl) rfl ?_
  refine dw_l (fun t => Φ t) (pc' := 26) (fun q4 => [.int q4.1]) (fun q4 => q4.2) rfl (fun _ => rfl) (fun q4 => ?_)
  refine dw_g rfl ?_
  refine dg_L (pc' := 28) [(5, .int q4.1), (4, .int q3.1), (3, .int q2.1), (0, .ref x0), (1, .int x1), (2, .int x2)] [] rfl (fun _ => rfl) rfl ?_
  refine dg_s (pc' := 30) [.int q3.1] rfl (fun _ => rfl) rfl ?_
  refine dw_if (fun t => Φ t) ((Int32.toInt q3.1) < 0) [] 52 33 rfl (fun _ => rfl) (fun c0 => ?_) (fun c0 => ?_)
  · refine dw_g rfl ?_
    exact dw_r (some (.inl (none, q4.2))) rfl (fun _ => rfl) (kR _)
  · refine dw_g rfl ?_
    refine dg_s (pc' := 35) [.int q4.1] rfl (fun _ => rfl) rfl ?_
    refine dw_if (fun t => Φ t) ((Int32.toInt q4.1) < 0) [] 52 38 rfl (fun _ => rfl) (fun c1 => ?_) (fun c1 => ?_)
    · refine dw_g rfl ?_
      exact dw_r (some (.inl (none, q4.2))) rfl (fun _ => rfl) (kR _)
    · refine dw_g rfl ?_
      refine dg_s (pc' := 39) [.ref x0] rfl (fun _ => rfl) rfl ?_
      refine dg_s (pc' := 40) [.int x1, .ref x0] rfl (fun _ => rfl) rfl ?_
      refine dg_s (pc' := 42) [.int q3.1, .int x1, .ref x0] rfl (fun _ => rfl) rfl ?_
      refine dw_b (fun t => Φ t) (pc' := 45) (fun q5 => []) (fun q5 => q5) rfl (fun _ => rfl) (fun q5 => ?_)
      refine dw_g rfl ?_
      refine dg_s (pc' := 46) [.ref x0] rfl (fun _ => rfl) rfl ?_
      refine dg_s (pc' := 47) [.int x2, .ref x0] rfl (fun _ => rfl) rfl ?_
      refine dg_s (pc' := 49) [.int q4.1, .int x2, .ref x0] rfl (fun _ => rfl) rfl ?_
      refine dw_b (fun t => Φ t) (pc' := 52) (fun q6 => []) (fun q6 => q6) rfl (fun _ => rfl) (fun q6 => ?_)
      refine dw_g rfl ?_
      exact dw_r (some (.inl (none, q6))) rfl (fun _ => rfl) (kR _)
noncomputable def H_X3_addWireBehind : dc_H := fun As m k => match As with
  | [.ref x0, .int x1, .int x2] => (d_X3_addWireBehind x0 x1 x2 m).bind (fun q => k (none) q)
  | _ => dc_kz
theorem H_X3_addWireBehind_ok {u : Nat} : dc_cok u 42 H_X3_addWireBehind := fun M' hG N As m k P hz hP => by
  obtain rfl : ab_M_X3_addWireBehind = M' := Option.some.inj hG
  unfold H_X3_addWireBehind at hP
  split at hP
  · rename_i x0 x1 x2
    exact dc_pv.imp (k_X3_addWireBehind (Φ := fun (t : Option dc_M) r m' => P (t.bind (fun q => k (none) q)) → P (k r m')) x0 x1 x2 m (fun _ h => h) rfl rfl rfl) (fun r m' h => h hP)
  · exact absurd hP hz
def C_X4_append : List (Nat × dc_H) := []
theorem CO_X4_append {u : Nat} : dc_CO u C_X4_append := dc_CO_nil
def S_X4_append : List (Nat × List Nat) := [(18, [0, 1, 3])]
noncomputable def d_X4_append_l18b (x0 : Nat) (x1 : Int64) (x3 : Int32) (m : dc_M) : Option ((Int32 × dc_M) ⊕ (Int32 × dc_M)) :=
  (if (Int32.toInt x3) < 0 then some (Sum.inr (((1 : Int32), m))) else some (Sum.inl ((x3 + (-8)), (dc_wi (dc_wi m x0 1 ((m.1 x0 1) + (1 : Int32))) (x0 + 1) (Int32.toNatClampNeg (m.1 x0 1)) (dc_nar ((dc_wi m x0 1 ((m.1 x0 1) + (1 : Int32))).2.2.2 (x0 + 1)).1 (((Int64.toInt32 (x1 >>> (Int32.toInt64 x3 &&& 63)))).toInt8.toInt32))))))
noncomputable def d_X4_append_l18s (x0 : Nat) (x1 : Int64) : (Int32 × dc_M) → Option ((Int32 × dc_M) ⊕ (Int32 × dc_M)) := fun s => d_X4_append_l18b x0 x1 s.1 s.2
noncomputable def d_X4_append_l18 (x0 : Nat) (x1 : Int64) (x3 : Int32) (m : dc_M) : Option (Int32 × dc_M) := dc_lp (d_X4_append_l18s x0 x1) (x3, m)
set_option maxHeartbeats 8000000 in
theorem k_X4_append_l18 {u : Nat} {Φ : (Option (Int32 × dc_M)) → Option Value → dc_M → Prop} (x0 : Nat) (x1 : Int64) (kR : ∀ (v : Int32) (m : dc_M), Φ (some ((v, m))) (some (.int v)) m) : ∀ (N : Nat), ∀ (x3 : Int32) (m : dc_M) (lv : ab_L), ab_lk lv 0 = some (.ref x0) → ab_lk lv 1 = some (.long x1) → ab_lk lv 3 = some (.int x3) → dc_pv u N ab_M_X4_append 18 lv [] m (Φ (d_X4_append_l18 x0 x1 x3 m)) := by
  intro N
  induction N with
  | zero => intros; exact dc_pv_zero
  | succ N ih =>
    intro x3 m lv f0 f1 f3
    refine dc_ok (C := C_X4_append) (S := S_X4_append) CO_X4_append 400 18 [(0, .ref x0), (1, .long x1), (3, .int x3)] lv [] m (dc_sub_cons f0 (dc_sub_cons f1 (dc_sub_cons f3 (dc_sub_nil)))) ?_
    unfold d_X4_append_l18
    rw [dc_lp_eq]
    show (fun t x => dc_lf u N ab_M_X4_append (Φ (Option.bind t (dc_bk (d_X4_append_l18s x0 x1)))) x) (d_X4_append_l18b x0 x1 x3 m) _
    dsimp only
    unfold d_X4_append_l18b
    refine dg_s (pc' := 19) [.int x3] rfl (fun _ => rfl) rfl ?_
    refine dw_if (fun t => Φ (Option.bind t (dc_bk (d_X4_append_l18s x0 x1)))) ((Int32.toInt x3) < 0) [] 49 22 rfl (fun _ => rfl) (fun c0 => ?_) (fun c0 => ?_)
    · refine dw_g rfl ?_
      refine dg_s (pc' := 50) [.int (1 : Int32)] rfl (fun _ => rfl) rfl ?_
      exact dw_r (some (.inl (some (.int (1 : Int32)), m))) rfl (fun _ => rfl) (kR _ _)
    · refine dw_g rfl ?_
      refine dg_s (pc' := 23) [.ref x0] rfl (fun _ => rfl) rfl ?_
      refine dg_s (pc' := 26) [.ref (x0 + 1)] rfl (fun _ => rfl) rfl ?_
      refine dg_s (pc' := 27) [.ref x0, .ref (x0 + 1)] rfl (fun _ => rfl) rfl ?_
      refine dg_s (pc' := 28) [.ref x0, .ref x0, .ref (x0 + 1)] rfl (fun _ => rfl) rfl ?_
      refine dg_s (pc' := 31) [.int (m.1 x0 1), .ref x0, .ref (x0 + 1)] rfl (fun _ => rfl) rfl ?_
      refine dg_s (pc' := 32) [.int (m.1 x0 1), .ref x0, .int (m.1 x0 1), .ref (x0 + 1)] rfl (fun _ => rfl) rfl ?_
      refine dg_s (pc' := 33) [.int (1 : Int32), .int (m.1 x0 1), .ref x0, .int (m.1 x0 1), .ref (x0 + 1)] rfl (fun _ => rfl) rfl ?_
      refine dg_s (pc' := 34) [.int ((m.1 x0 1) + (1 : Int32)), .ref x0, .int (m.1 x0 1), .ref (x0 + 1)] rfl (fun _ => rfl) rfl ?_
      refine dg_m (pc' := 37) (dc_wi m x0 1 ((m.1 x0 1) + (1 : Int32))) [.int (m.1 x0 1), .ref (x0 + 1)] rfl (fun _ => rfl) rfl ?_
      refine dg_s (pc' := 38) [.long x1, .int (m.1 x0 1), .ref (x0 + 1)] rfl (fun _ => rfl) rfl ?_
      refine dg_s (pc' := 39) [.int x3, .long x1, .int (m.1 x0 1), .ref (x0 + 1)] rfl (fun _ => rfl) rfl ?_
      refine dg_s (pc' := 40) [.long (x1 >>> (Int32.toInt64 x3 &&& 63)), .int (m.1 x0 1), .ref (x0 + 1)] rfl (fun _ => rfl) rfl ?_
      refine dg_s (pc' := 41) [.int (Int64.toInt32 (x1 >>> (Int32.toInt64 x3 &&& 63))), .int (m.1 x0 1), .ref (x0 + 1)] rfl (fun _ => rfl) rfl ?_
      refine dg_s (pc' := 42) [.int (((Int64.toInt32 (x1 >>> (Int32.toInt64 x3 &&& 63)))).toInt8.toInt32), .int (m.1 x0 1), .ref (x0 + 1)] rfl (fun _ => rfl) rfl ?_
      refine dg_m (pc' := 43) (dc_wi (dc_wi m x0 1 ((m.1 x0 1) + (1 : Int32))) (x0 + 1) (Int32.toNatClampNeg (m.1 x0 1)) (dc_nar ((dc_wi m x0 1 ((m.1 x0 1) + (1 : Int32))).2.2.2 (x0 + 1)).1 (((Int64.toInt32 (x1 >>> (Int32.toInt64 x3 &&& 63)))).toInt8.toInt32))) [] rfl (fun _ => rfl) rfl ?_
      refine dg_L (pc' := 46) [(3, .int (x3 + (-8))), (0, .ref x0), (1, .long x1)] [] rfl (fun _ => rfl) rfl ?_
      refine dw_s (pc' := 18) [] rfl (fun _ => rfl) ?_
      exact dw_j rfl (fun lv1 hv => ih (x3 + (-8)) (dc_wi (dc_wi m x0 1 ((m.1 x0 1) + (1 : Int32))) (x0 + 1) (Int32.toNatClampNeg (m.1 x0 1)) (dc_nar ((dc_wi m x0 1 ((m.1 x0 1) + (1 : Int32))).2.2.2 (x0 + 1)).1 (((Int64.toInt32 (x1 >>> (Int32.toInt64 x3 &&& 63)))).toInt8.toInt32))) lv1 (hv.1 _ rfl) (hv.2.1 _ rfl) (hv.2.2.1 _ rfl))
noncomputable def d_X4_append (x0 : Nat) (x1 : Int64) (m : dc_M) : Option (Int32 × dc_M) :=
  (if (Int32.toInt ((m.1 x0 1) + (8 : Int32))) ≤ 240 then (d_X4_append_l18 x0 x1 (56 : Int32) m) else some (((0 : Int32), m)))
set_option maxHeartbeats 8000000 in
theorem k_X4_append {u : Nat} {N : Nat} {Φ : (Option (Int32 × dc_M)) → Option Value → dc_M → Prop} (x0 : Nat) (x1 : Int64) (m : dc_M) (kR : ∀ (v : Int32) (m : dc_M), Φ (some ((v, m))) (some (.int v)) m)  {lv : ab_L} (f0 : ab_lk lv 0 = some (.ref x0)) (f1 : ab_lk lv 1 = some (.long x1)) : dc_pv u N ab_M_X4_append 0 lv [] m (Φ (d_X4_append x0 x1 m)) := by
  refine dc_pv.mono (dc_ok (C := C_X4_append) (S := S_X4_append) CO_X4_append 400 0 [(0, .ref x0), (1, .long x1)] lv [] m (dc_sub_cons f0 (dc_sub_cons f1 (dc_sub_nil))) ?_) (Nat.le_succ N)
  unfold d_X4_append
  refine dg_s (pc' := 1) [.ref x0] rfl (fun _ => rfl) rfl ?_
  refine dg_s (pc' := 4) [.int (m.1 x0 1)] rfl (fun _ => rfl) rfl ?_
  refine dg_s (pc' := 6) [.int (8 : Int32), .int (m.1 x0 1)] rfl (fun _ => rfl) rfl ?_
  refine dg_s (pc' := 7) [.int ((m.1 x0 1) + (8 : Int32))] rfl (fun _ => rfl) rfl ?_
  refine dg_s (pc' := 10) [.int (240 : Int32), .int ((m.1 x0 1) + (8 : Int32))] rfl (fun _ => rfl) rfl ?_
  refine dw_if (fun t => Φ t) ((Int32.toInt ((m.1 x0 1) + (8 : Int32))) ≤ 240) [] 15 13 rfl (fun _ => rfl) (fun c0 => ?_) (fun c0 => ?_)
  · refine dw_g rfl ?_
    refine dg_s (pc' := 17) [.int (56 : Int32)] rfl (fun _ => rfl) rfl ?_
    refine dw_L (pc' := 18) [(3, .int (56 : Int32)), (0, .ref x0), (1, .long x1)] [] rfl (fun _ => rfl) ?_
    exact dw_j rfl (fun lv1 hv => k_X4_append_l18 (Φ := (fun t => Φ t)) x0 x1 (fun _a _b => kR _a _b) N  (56 : Int32) m lv1 (hv.1 _ rfl) (hv.2.1 _ rfl) (hv.2.2.1 _ rfl))
  · refine dw_g rfl ?_
    refine dg_s (pc' := 14) [.int (0 : Int32)] rfl (fun _ => rfl) rfl ?_
    exact dw_r (some (.inl (some (.int (0 : Int32)), m))) rfl (fun _ => rfl) (kR _ _)
noncomputable def H_X4_append : dc_H := fun As m k => match As with
  | [.ref x0, .long x1] => (d_X4_append x0 x1 m).bind (fun q => k (some (.int q.1)) q.2)
  | _ => dc_kz
theorem H_X4_append_ok {u : Nat} : dc_cok u 46 H_X4_append := fun M' hG N As m k P hz hP => by
  obtain rfl : ab_M_X4_append = M' := Option.some.inj hG
  unfold H_X4_append at hP
  split at hP
  · rename_i x0 x1
    exact dc_pv.imp (k_X4_append (Φ := fun (t : Option (Int32 × dc_M)) r m' => P (t.bind (fun q => k (some (.int q.1)) q.2)) → P (k r m')) x0 x1 m (fun _ _ h => h) rfl rfl) (fun r m' h => h hP)
  · exact absurd hP hz
def C_J0_isLatin1_aae02 : List (Nat × dc_H) := []
theorem CO_J0_isLatin1_aae02 {u : Nat} : dc_CO u C_J0_isLatin1_aae02 := dc_CO_nil
def S_J0_isLatin1_aae02 : List (Nat × List Nat) := []
def d_J0_isLatin1_aae02 (x0 : Nat) (m : dc_M) : Int32 :=
  (if 1 = 0 then (0 : Int32) else (if ¬ (Int32.toInt 0) = 0 then (0 : Int32) else (1 : Int32)))
set_option maxHeartbeats 8000000 in
theorem k_J0_isLatin1_aae02 {u : Nat} {N : Nat} {Φ : Int32 → Option Value → dc_M → Prop} (x0 : Nat) (m : dc_M) (kR : ∀ (v : Int32), Φ (v) (some (.int v)) m)  {lv : ab_L} (f0 : ab_lk lv 0 = some (.retAddr x0)) : dc_pv u N ab_M_J0_isLatin1_aae02 0 lv [] m (Φ (d_J0_isLatin1_aae02 x0 m)) := by
  refine dc_pv.mono (dc_ok (C := C_J0_isLatin1_aae02) (S := S_J0_isLatin1_aae02) CO_J0_isLatin1_aae02 400 0 [(0, .retAddr x0)] lv [] m (dc_sub_cons f0 (dc_sub_nil)) ?_) (Nat.le_succ N)
  unfold d_J0_isLatin1_aae02
  refine dg_s (pc' := 3) [.int (1 : Int32)] rfl (fun _ => rfl) rfl ?_
  refine dw_if (fun t => Φ t) (1 = 0) [] 17 6 rfl (fun _ => rfl) (fun c0 => ?_) (fun c0 => ?_)
  · refine dw_g rfl ?_
    refine dg_s (pc' := 18) [.int (0 : Int32)] rfl (fun _ => rfl) rfl ?_
    exact dw_r (some (.inl (some (.int (0 : Int32)), m))) rfl (fun _ => rfl) (kR _)
  · refine dw_g rfl ?_
    refine dg_s (pc' := 7) [.retAddr x0] rfl (fun _ => rfl) rfl ?_
    refine dg_s (pc' := 10) [.int 0] rfl (fun _ => rfl) rfl ?_
    refine dw_if (fun t => Φ t) (¬ (Int32.toInt 0) = 0) [] 17 13 rfl (fun _ => rfl) (fun c1 => ?_) (fun c1 => ?_)
    · refine dw_g rfl ?_
      refine dg_s (pc' := 18) [.int (0 : Int32)] rfl (fun _ => rfl) rfl ?_
      exact dw_r (some (.inl (some (.int (0 : Int32)), m))) rfl (fun _ => rfl) (kR _)
    · refine dw_g rfl ?_
      refine dg_s (pc' := 14) [.int (1 : Int32)] rfl (fun _ => rfl) rfl ?_
      refine dg_s (pc' := 18) [.int (1 : Int32)] rfl (fun _ => rfl) rfl ?_
      exact dw_r (some (.inl (some (.int (1 : Int32)), m))) rfl (fun _ => rfl) (kR _)
def H_J0_isLatin1_aae02 : dc_H := fun As m k => match As with
  | [.retAddr x0] => k (some (.int (d_J0_isLatin1_aae02 x0 m))) m
  | _ => dc_kz
theorem H_J0_isLatin1_aae02_ok {u : Nat} : dc_cok u 235 H_J0_isLatin1_aae02 := fun M' hG N As m k P hz hP => by
  obtain rfl : ab_M_J0_isLatin1_aae02 = M' := Option.some.inj hG
  unfold H_J0_isLatin1_aae02 at hP
  split at hP
  · rename_i x0
    exact dc_pv.imp (k_J0_isLatin1_aae02 (Φ := fun (t : Int32) r m' => P (k (some (.int t)) m) → P (k r m')) x0 m (fun _  h => h) rfl) (fun r m' h => h hP)
  · exact absurd hP hz
def C_J3_checkIndex_8e157 : List (Nat × dc_H) := []
theorem CO_J3_checkIndex_8e157 {u : Nat} : dc_CO u C_J3_checkIndex_8e157 := dc_CO_nil
def S_J3_checkIndex_8e157 : List (Nat × List Nat) := []
def d_J3_checkIndex_8e157 (x0 : Int32) (x1 : Int32) (x2 : Nat) (m : dc_M) : Int32 :=
  x0
set_option maxHeartbeats 8000000 in
theorem k_J3_checkIndex_8e157 {u : Nat} {N : Nat} {Φ : Int32 → Option Value → dc_M → Prop} (x0 : Int32) (x1 : Int32) (x2 : Nat) (m : dc_M) (kR : ∀ (v : Int32), Φ (v) (some (.int v)) m)  {lv : ab_L} (f0 : ab_lk lv 0 = some (.int x0)) (f1 : ab_lk lv 1 = some (.int x1)) (f2 : ab_lk lv 2 = some (.retAddr x2)) : dc_pv u N ab_M_J3_checkIndex_8e157 0 lv [] m (Φ (d_J3_checkIndex_8e157 x0 x1 x2 m)) := by
  refine dc_pv.mono (dc_ok (C := C_J3_checkIndex_8e157) (S := S_J3_checkIndex_8e157) CO_J3_checkIndex_8e157 400 0 [(0, .int x0), (1, .int x1), (2, .retAddr x2)] lv [] m (dc_sub_cons f0 (dc_sub_cons f1 (dc_sub_cons f2 (dc_sub_nil)))) ?_) (Nat.le_succ N)
  unfold d_J3_checkIndex_8e157
  refine dg_s (pc' := 1) [.int x0] rfl (fun _ => rfl) rfl ?_
  refine dw_ifl (fun t => Φ t) ((Int32.toInt x0) < 0) [] 9 4 rfl (fun _ => rfl) (fun c0 => ?_) (fun c0 => ?_)
  · refine dw_g rfl ?_
    refine dg_s (pc' := 10) [.retAddr x2] rfl (fun _ => rfl) rfl ?_
    refine dg_s (pc' := 11) [.int x0, .retAddr x2] rfl (fun _ => rfl) rfl ?_
    refine dg_s (pc' := 12) [.int x1, .int x0, .retAddr x2] rfl (fun _ => rfl) rfl ?_
    exact dw_r none rfl (fun _ => rfl) trivial
  · refine dw_g rfl ?_
    refine dg_s (pc' := 5) [.int x0] rfl (fun _ => rfl) rfl ?_
    refine dg_s (pc' := 6) [.int x1, .int x0] rfl (fun _ => rfl) rfl ?_
    refine dw_ifl (fun t => Φ t) ((Int32.toInt x0) < (Int32.toInt x1)) [] 16 9 rfl (fun _ => rfl) (fun c1 => ?_) (fun c1 => ?_)
    · refine dw_g rfl ?_
      refine dg_s (pc' := 17) [.int x0] rfl (fun _ => rfl) rfl ?_
      exact dw_r (some (.inl (some (.int x0), m))) rfl (fun _ => rfl) (kR _)
    · refine dw_g rfl ?_
      refine dg_s (pc' := 10) [.retAddr x2] rfl (fun _ => rfl) rfl ?_
      refine dg_s (pc' := 11) [.int x0, .retAddr x2] rfl (fun _ => rfl) rfl ?_
      refine dg_s (pc' := 12) [.int x1, .int x0, .retAddr x2] rfl (fun _ => rfl) rfl ?_
      exact dw_r none rfl (fun _ => rfl) trivial
def H_J3_checkIndex_8e157 : dc_H := fun As m k => match As with
  | [.int x0, .int x1, .retAddr x2] => k (some (.int (d_J3_checkIndex_8e157 x0 x1 x2 m))) m
  | _ => dc_kz
theorem H_J3_checkIndex_8e157_ok {u : Nat} : dc_cok u 239 H_J3_checkIndex_8e157 := fun M' hG N As m k P hz hP => by
  obtain rfl : ab_M_J3_checkIndex_8e157 = M' := Option.some.inj hG
  unfold H_J3_checkIndex_8e157 at hP
  split at hP
  · rename_i x0 x1 x2
    exact dc_pv.imp (k_J3_checkIndex_8e157 (Φ := fun (t : Int32) r m' => P (k (some (.int t)) m) → P (k r m')) x0 x1 x2 m (fun _  h => h) rfl rfl rfl) (fun r m' h => h hP)
  · exact absurd hP hz
def C_J0_checkIndex_df160 : List (Nat × dc_H) := [(239, H_J3_checkIndex_8e157)]
theorem CO_J0_checkIndex_df160 {u : Nat} : dc_CO u C_J0_checkIndex_df160 := dc_CO_cons H_J3_checkIndex_8e157_ok (dc_CO_nil)
def S_J0_checkIndex_df160 : List (Nat × List Nat) := []
def d_J0_checkIndex_df160 (x0 : Int32) (x1 : Int32) (m : dc_M) : Unit :=
  ()
set_option maxHeartbeats 8000000 in
theorem k_J0_checkIndex_df160 {u : Nat} {N : Nat} {Φ : Unit → Option Value → dc_M → Prop} (x0 : Int32) (x1 : Int32) (m : dc_M) (kR : Φ (()) (none) m)  {lv : ab_L} (f0 : ab_lk lv 0 = some (.int x0)) (f1 : ab_lk lv 1 = some (.int x1)) : dc_pv u N ab_M_J0_checkIndex_df160 0 lv [] m (Φ (d_J0_checkIndex_df160 x0 x1 m)) := by
  refine dc_pv.mono (dc_ok (C := C_J0_checkIndex_df160) (S := S_J0_checkIndex_df160) CO_J0_checkIndex_df160 400 0 [(0, .int x0), (1, .int x1)] lv [] m (dc_sub_cons f0 (dc_sub_cons f1 (dc_sub_nil))) ?_) (Nat.le_succ N)
  unfold d_J0_checkIndex_df160
  refine dg_s (pc' := 1) [.int x0] rfl (fun _ => rfl) rfl ?_
  refine dg_s (pc' := 2) [.int x1, .int x0] rfl (fun _ => rfl) rfl ?_
  refine dg_s (pc' := 5) [.retAddr 9, .int x1, .int x0] rfl (fun _ => rfl) rfl ?_
  refine dg_s (pc' := 8) [.int (d_J3_checkIndex_8e157 x0 x1 9 m)] rfl (fun _ => rfl) rfl ?_
  refine dg_s (pc' := 9) [] rfl (fun _ => rfl) rfl ?_
  exact dw_r (some (.inl (none, m))) rfl (fun _ => rfl) (kR)
def H_J0_checkIndex_df160 : dc_H := fun As m k => match As with
  | [.int x0, .int x1] => k (none) m
  | _ => dc_kz
theorem H_J0_checkIndex_df160_ok {u : Nat} : dc_cok u 236 H_J0_checkIndex_df160 := fun M' hG N As m k P hz hP => by
  obtain rfl : ab_M_J0_checkIndex_df160 = M' := Option.some.inj hG
  unfold H_J0_checkIndex_df160 at hP
  split at hP
  · rename_i x0 x1
    exact dc_pv.imp (k_J0_checkIndex_df160 (Φ := fun (t : Unit) r m' => P (k (none) m) → P (k r m')) x0 x1 m (fun  h => h) rfl rfl) (fun r m' h => h hP)
  · exact absurd hP hz
def C_J1_charAt_3b067 : List (Nat × dc_H) := [(236, H_J0_checkIndex_df160)]
theorem CO_J1_charAt_3b067 {u : Nat} : dc_CO u C_J1_charAt_3b067 := dc_CO_cons H_J0_checkIndex_df160_ok (dc_CO_nil)
def S_J1_charAt_3b067 : List (Nat × List Nat) := []
def d_J1_charAt_3b067 (x0 : Nat) (x1 : Int32) (m : dc_M) : Int32 :=
  ((((((ab_xt (x0 - 11)).getD (Int32.toNatClampNeg x1) 0) &&& (255 : Int32))).toUInt32 % 65536).toInt32)
set_option maxHeartbeats 8000000 in
theorem k_J1_charAt_3b067 {u : Nat} {N : Nat} {Φ : Int32 → Option Value → dc_M → Prop} (x0 : Nat) (x1 : Int32) (m : dc_M) (kR : ∀ (v : Int32), Φ (v) (some (.int v)) m)  {lv : ab_L} (f0 : ab_lk lv 0 = some (.retAddr x0)) (f1 : ab_lk lv 1 = some (.int x1)) : dc_pv u N ab_M_J1_charAt_3b067 0 lv [] m (Φ (d_J1_charAt_3b067 x0 x1 m)) := by
  refine dc_pv.mono (dc_ok (C := C_J1_charAt_3b067) (S := S_J1_charAt_3b067) CO_J1_charAt_3b067 400 0 [(0, .retAddr x0), (1, .int x1)] lv [] m (dc_sub_cons f0 (dc_sub_cons f1 (dc_sub_nil))) ?_) (Nat.le_succ N)
  unfold d_J1_charAt_3b067
  refine dg_s (pc' := 1) [.int x1] rfl (fun _ => rfl) rfl ?_
  refine dg_s (pc' := 2) [.retAddr x0, .int x1] rfl (fun _ => rfl) rfl ?_
  refine dg_s (pc' := 3) [.int (Int32.ofNat (ab_xt (x0 - 11)).length), .int x1] rfl (fun _ => rfl) rfl ?_
  refine dg_s (pc' := 6) [] rfl (fun _ => rfl) rfl ?_
  refine dg_s (pc' := 7) [.retAddr x0] rfl (fun _ => rfl) rfl ?_
  refine dg_s (pc' := 8) [.int x1, .retAddr x0] rfl (fun _ => rfl) rfl ?_
  refine dg_s (pc' := 9) [.int ((ab_xt (x0 - 11)).getD (Int32.toNatClampNeg x1) 0)] rfl (fun _ => rfl) rfl ?_
  refine dg_s (pc' := 12) [.int (255 : Int32), .int ((ab_xt (x0 - 11)).getD (Int32.toNatClampNeg x1) 0)] rfl (fun _ => rfl) rfl ?_
  refine dg_s (pc' := 13) [.int (((ab_xt (x0 - 11)).getD (Int32.toNatClampNeg x1) 0) &&& (255 : Int32))] rfl (fun _ => rfl) rfl ?_
  refine dg_s (pc' := 14) [.int ((((((ab_xt (x0 - 11)).getD (Int32.toNatClampNeg x1) 0) &&& (255 : Int32))).toUInt32 % 65536).toInt32)] rfl (fun _ => rfl) rfl ?_
  exact dw_r (some (.inl (some (.int ((((((ab_xt (x0 - 11)).getD (Int32.toNatClampNeg x1) 0) &&& (255 : Int32))).toUInt32 % 65536).toInt32)), m))) rfl (fun _ => rfl) (kR _)
def H_J1_charAt_3b067 : dc_H := fun As m k => match As with
  | [.retAddr x0, .int x1] => k (some (.int (d_J1_charAt_3b067 x0 x1 m))) m
  | _ => dc_kz
theorem H_J1_charAt_3b067_ok {u : Nat} : dc_cok u 237 H_J1_charAt_3b067 := fun M' hG N As m k P hz hP => by
  obtain rfl : ab_M_J1_charAt_3b067 = M' := Option.some.inj hG
  unfold H_J1_charAt_3b067 at hP
  split at hP
  · rename_i x0 x1
    exact dc_pv.imp (k_J1_charAt_3b067 (Φ := fun (t : Int32) r m' => P (k (some (.int t)) m) → P (k r m')) x0 x1 m (fun _  h => h) rfl rfl) (fun r m' h => h hP)
  · exact absurd hP hz
def C_J0_charAt_5068e : List (Nat × dc_H) := [(235, H_J0_isLatin1_aae02), (237, H_J1_charAt_3b067)]
theorem CO_J0_charAt_5068e {u : Nat} : dc_CO u C_J0_charAt_5068e := dc_CO_cons H_J0_isLatin1_aae02_ok (dc_CO_cons H_J1_charAt_3b067_ok (dc_CO_nil))
def S_J0_charAt_5068e : List (Nat × List Nat) := []
def d_J0_charAt_5068e (x0 : Nat) (x1 : Int32) (m : dc_M) : Int32 :=
  (d_J1_charAt_3b067 (x0 + 10) x1 m)
set_option maxHeartbeats 8000000 in
theorem k_J0_charAt_5068e {u : Nat} {N : Nat} {Φ : Int32 → Option Value → dc_M → Prop} (x0 : Nat) (x1 : Int32) (m : dc_M) (kR : ∀ (v : Int32), Φ (v) (some (.int v)) m)  {lv : ab_L} (f0 : ab_lk lv 0 = some (.retAddr x0)) (f1 : ab_lk lv 1 = some (.int x1)) : dc_pv u N ab_M_J0_charAt_5068e 0 lv [] m (Φ (d_J0_charAt_5068e x0 x1 m)) := by
  refine dc_pv.mono (dc_ok (C := C_J0_charAt_5068e) (S := S_J0_charAt_5068e) CO_J0_charAt_5068e 400 0 [(0, .retAddr x0), (1, .int x1)] lv [] m (dc_sub_cons f0 (dc_sub_cons f1 (dc_sub_nil))) ?_) (Nat.le_succ N)
  unfold d_J0_charAt_5068e
  refine dg_s (pc' := 1) [.retAddr x0] rfl (fun _ => rfl) rfl ?_
  refine dg_s (pc' := 4) [.int (d_J0_isLatin1_aae02 x0 m)] rfl (fun _ => rfl) rfl ?_
  refine dw_ifl (fun t => Φ t) ((Int32.toInt (d_J0_isLatin1_aae02 x0 m)) = 0) [] 16 7 rfl (fun _ => rfl) (fun c0 => ?_) (fun c0 => ?_)
  · refine dw_g rfl ?_
    refine dg_s (pc' := 17) [.retAddr x0] rfl (fun _ => rfl) rfl ?_
    refine dg_s (pc' := 20) [.retAddr (x0 + 10)] rfl (fun _ => rfl) rfl ?_
    refine dg_s (pc' := 21) [.int x1, .retAddr (x0 + 10)] rfl (fun _ => rfl) rfl ?_
    exact dw_r none rfl (fun _ => rfl) trivial
  · refine dw_g rfl ?_
    refine dg_s (pc' := 8) [.retAddr x0] rfl (fun _ => rfl) rfl ?_
    refine dg_s (pc' := 11) [.retAddr (x0 + 10)] rfl (fun _ => rfl) rfl ?_
    refine dg_s (pc' := 12) [.int x1, .retAddr (x0 + 10)] rfl (fun _ => rfl) rfl ?_
    refine dg_s (pc' := 15) [.int (d_J1_charAt_3b067 (x0 + 10) x1 m)] rfl (fun _ => rfl) rfl ?_
    exact dw_r (some (.inl (some (.int (d_J1_charAt_3b067 (x0 + 10) x1 m)), m))) rfl (fun _ => rfl) (kR _)
def H_J0_charAt_5068e : dc_H := fun As m k => match As with
  | [.retAddr x0, .int x1] => k (some (.int (d_J0_charAt_5068e x0 x1 m))) m
  | _ => dc_kz
theorem H_J0_charAt_5068e_ok {u : Nat} : dc_cok u 233 H_J0_charAt_5068e := fun M' hG N As m k P hz hP => by
  obtain rfl : ab_M_J0_charAt_5068e = M' := Option.some.inj hG
  unfold H_J0_charAt_5068e at hP
  split at hP
  · rename_i x0 x1
    exact dc_pv.imp (k_J0_charAt_5068e (Φ := fun (t : Int32) r m' => P (k (some (.int t)) m) → P (k r m')) x0 x1 m (fun _  h => h) rfl rfl) (fun r m' h => h hP)
  · exact absurd hP hz
def C_J0_coder_7d493 : List (Nat × dc_H) := []
theorem CO_J0_coder_7d493 {u : Nat} : dc_CO u C_J0_coder_7d493 := dc_CO_nil
def S_J0_coder_7d493 : List (Nat × List Nat) := []
def d_J0_coder_7d493 (x0 : Nat) (m : dc_M) : Int32 :=
  (if 1 = 0 then (1 : Int32) else 0)
set_option maxHeartbeats 8000000 in
theorem k_J0_coder_7d493 {u : Nat} {N : Nat} {Φ : Int32 → Option Value → dc_M → Prop} (x0 : Nat) (m : dc_M) (kR : ∀ (v : Int32), Φ (v) (some (.int v)) m)  {lv : ab_L} (f0 : ab_lk lv 0 = some (.retAddr x0)) : dc_pv u N ab_M_J0_coder_7d493 0 lv [] m (Φ (d_J0_coder_7d493 x0 m)) := by
  refine dc_pv.mono (dc_ok (C := C_J0_coder_7d493) (S := S_J0_coder_7d493) CO_J0_coder_7d493 400 0 [(0, .retAddr x0)] lv [] m (dc_sub_cons f0 (dc_sub_nil)) ?_) (Nat.le_succ N)
  unfold d_J0_coder_7d493
  refine dg_s (pc' := 3) [.int (1 : Int32)] rfl (fun _ => rfl) rfl ?_
  refine dw_if (fun t => Φ t) (1 = 0) [] 13 6 rfl (fun _ => rfl) (fun c0 => ?_) (fun c0 => ?_)
  · refine dw_g rfl ?_
    refine dg_s (pc' := 14) [.int (1 : Int32)] rfl (fun _ => rfl) rfl ?_
    exact dw_r (some (.inl (some (.int (1 : Int32)), m))) rfl (fun _ => rfl) (kR _)
  · refine dw_g rfl ?_
    refine dg_s (pc' := 7) [.retAddr x0] rfl (fun _ => rfl) rfl ?_
    refine dg_s (pc' := 10) [.int 0] rfl (fun _ => rfl) rfl ?_
    refine dg_s (pc' := 14) [.int 0] rfl (fun _ => rfl) rfl ?_
    exact dw_r (some (.inl (some (.int 0), m))) rfl (fun _ => rfl) (kR _)
def H_J0_coder_7d493 : dc_H := fun As m k => match As with
  | [.retAddr x0] => k (some (.int (d_J0_coder_7d493 x0 m))) m
  | _ => dc_kz
theorem H_J0_coder_7d493_ok {u : Nat} : dc_cok u 234 H_J0_coder_7d493 := fun M' hG N As m k P hz hP => by
  obtain rfl : ab_M_J0_coder_7d493 = M' := Option.some.inj hG
  unfold H_J0_coder_7d493 at hP
  split at hP
  · rename_i x0
    exact dc_pv.imp (k_J0_coder_7d493 (Φ := fun (t : Int32) r m' => P (k (some (.int t)) m) → P (k r m')) x0 m (fun _  h => h) rfl) (fun r m' h => h hP)
  · exact absurd hP hz
def C_J0_length_8abf5 : List (Nat × dc_H) := [(234, H_J0_coder_7d493)]
theorem CO_J0_length_8abf5 {u : Nat} : dc_CO u C_J0_length_8abf5 := dc_CO_cons H_J0_coder_7d493_ok (dc_CO_nil)
def S_J0_length_8abf5 : List (Nat × List Nat) := []
def d_J0_length_8abf5 (x0 : Nat) (m : dc_M) : Int32 :=
  ((Int32.ofNat (ab_xt ((x0 + 10) - 11)).length) >>> ((d_J0_coder_7d493 x0 m) &&& 31))
set_option maxHeartbeats 8000000 in
theorem k_J0_length_8abf5 {u : Nat} {N : Nat} {Φ : Int32 → Option Value → dc_M → Prop} (x0 : Nat) (m : dc_M) (kR : ∀ (v : Int32), Φ (v) (some (.int v)) m)  {lv : ab_L} (f0 : ab_lk lv 0 = some (.retAddr x0)) : dc_pv u N ab_M_J0_length_8abf5 0 lv [] m (Φ (d_J0_length_8abf5 x0 m)) := by
  refine dc_pv.mono (dc_ok (C := C_J0_length_8abf5) (S := S_J0_length_8abf5) CO_J0_length_8abf5 400 0 [(0, .retAddr x0)] lv [] m (dc_sub_cons f0 (dc_sub_nil)) ?_) (Nat.le_succ N)
  unfold d_J0_length_8abf5
  refine dg_s (pc' := 1) [.retAddr x0] rfl (fun _ => rfl) rfl ?_
  refine dg_s (pc' := 4) [.retAddr (x0 + 10)] rfl (fun _ => rfl) rfl ?_
  refine dg_s (pc' := 5) [.int (Int32.ofNat (ab_xt ((x0 + 10) - 11)).length)] rfl (fun _ => rfl) rfl ?_
  refine dg_s (pc' := 6) [.retAddr x0, .int (Int32.ofNat (ab_xt ((x0 + 10) - 11)).length)] rfl (fun _ => rfl) rfl ?_
  refine dg_s (pc' := 9) [.int (d_J0_coder_7d493 x0 m), .int (Int32.ofNat (ab_xt ((x0 + 10) - 11)).length)] rfl (fun _ => rfl) rfl ?_
  refine dg_s (pc' := 10) [.int ((Int32.ofNat (ab_xt ((x0 + 10) - 11)).length) >>> ((d_J0_coder_7d493 x0 m) &&& 31))] rfl (fun _ => rfl) rfl ?_
  exact dw_r (some (.inl (some (.int ((Int32.ofNat (ab_xt ((x0 + 10) - 11)).length) >>> ((d_J0_coder_7d493 x0 m) &&& 31))), m))) rfl (fun _ => rfl) (kR _)
def H_J0_length_8abf5 : dc_H := fun As m k => match As with
  | [.retAddr x0] => k (some (.int (d_J0_length_8abf5 x0 m))) m
  | _ => dc_kz
theorem H_J0_length_8abf5_ok {u : Nat} : dc_cok u 232 H_J0_length_8abf5 := fun M' hG N As m k P hz hP => by
  obtain rfl : ab_M_J0_length_8abf5 = M' := Option.some.inj hG
  unfold H_J0_length_8abf5 at hP
  split at hP
  · rename_i x0
    exact dc_pv.imp (k_J0_length_8abf5 (Φ := fun (t : Int32) r m' => P (k (some (.int t)) m) → P (k r m')) x0 m (fun _  h => h) rfl) (fun r m' h => h hP)
  · exact absurd hP hz
def C_X4_isWord : List (Nat × dc_H) := [(233, H_J0_charAt_5068e), (232, H_J0_length_8abf5)]
theorem CO_X4_isWord {u : Nat} : dc_CO u C_X4_isWord := dc_CO_cons H_J0_charAt_5068e_ok (dc_CO_cons H_J0_length_8abf5_ok (dc_CO_nil))
def S_X4_isWord : List (Nat × List Nat) := [(28, [0, 1, 2])]
noncomputable def d_X4_isWord_l28b (x0 : Nat) (x1 : Nat) (x2 : Int32) (m : dc_M) : Option (Int32 ⊕ Int32) :=
  (if (Int32.toInt (d_J0_length_8abf5 x1 m)) ≤ (Int32.toInt x2) then some (Sum.inr ((1 : Int32))) else (if 240 ≤ (Int32.toInt ((m.1 x0 6) + x2)) then some (Sum.inr ((1 : Int32))) else (if (Int32.toInt (m.1 (x0 + 1) (Int32.toNatClampNeg ((m.1 x0 6) + x2)))) = (Int32.toInt (d_J0_charAt_5068e x1 x2 m)) then some (Sum.inl (x2 + (1 : Int32))) else some (Sum.inr ((0 : Int32))))))
noncomputable def d_X4_isWord_l28s (x0 : Nat) (x1 : Nat) (m : dc_M) : Int32 → Option (Int32 ⊕ Int32) := fun s => d_X4_isWord_l28b x0 x1 s m
noncomputable def d_X4_isWord_l28 (x0 : Nat) (x1 : Nat) (x2 : Int32) (m : dc_M) : Option Int32 := dc_lp (d_X4_isWord_l28s x0 x1 m) x2
set_option maxHeartbeats 8000000 in
theorem k_X4_isWord_l28 {u : Nat} {Φ : (Option Int32) → Option Value → dc_M → Prop} (x0 : Nat) (x1 : Nat) (m : dc_M) (kR : ∀ (v : Int32), Φ (some (v)) (some (.int v)) m) : ∀ (N : Nat), ∀ (x2 : Int32) (lv : ab_L), ab_lk lv 0 = some (.ref x0) → ab_lk lv 1 = some (.retAddr x1) → ab_lk lv 2 = some (.int x2) → dc_pv u N ab_M_X4_isWord 28 lv [] m (Φ (d_X4_isWord_l28 x0 x1 x2 m)) := by
  intro N
  induction N with
  | zero => intros; exact dc_pv_zero
  | succ N ih =>
    intro x2 lv f0 f1 f2
    refine dc_ok (C := C_X4_isWord) (S := S_X4_isWord) CO_X4_isWord 400 28 [(0, .ref x0), (1, .retAddr x1), (2, .int x2)] lv [] m (dc_sub_cons f0 (dc_sub_cons f1 (dc_sub_cons f2 (dc_sub_nil)))) ?_
    unfold d_X4_isWord_l28
    rw [dc_lp_eq]
    show (fun t x => dc_lf u N ab_M_X4_isWord (Φ (Option.bind t (dc_bk (d_X4_isWord_l28s x0 x1 m)))) x) (d_X4_isWord_l28b x0 x1 x2 m) _
    dsimp only
    unfold d_X4_isWord_l28b
    refine dg_s (pc' := 29) [.int x2] rfl (fun _ => rfl) rfl ?_
    refine dg_s (pc' := 30) [.retAddr x1, .int x2] rfl (fun _ => rfl) rfl ?_
    refine dg_s (pc' := 33) [.int (d_J0_length_8abf5 x1 m), .int x2] rfl (fun _ => rfl) rfl ?_
    refine dw_if (fun t => Φ (Option.bind t (dc_bk (d_X4_isWord_l28s x0 x1 m)))) ((Int32.toInt (d_J0_length_8abf5 x1 m)) ≤ (Int32.toInt x2)) [] 75 36 rfl (fun _ => rfl) (fun c0 => ?_) (fun c0 => ?_)
    · refine dw_g rfl ?_
      refine dg_s (pc' := 76) [.int (1 : Int32)] rfl (fun _ => rfl) rfl ?_
      exact dw_r (some (.inl (some (.int (1 : Int32)), m))) rfl (fun _ => rfl) (kR _)
    · refine dw_g rfl ?_
      refine dg_s (pc' := 37) [.ref x0] rfl (fun _ => rfl) rfl ?_
      refine dg_s (pc' := 40) [.int (m.1 x0 6)] rfl (fun _ => rfl) rfl ?_
      refine dg_s (pc' := 41) [.int x2, .int (m.1 x0 6)] rfl (fun _ => rfl) rfl ?_
      refine dg_s (pc' := 42) [.int ((m.1 x0 6) + x2)] rfl (fun _ => rfl) rfl ?_
      refine dg_s (pc' := 45) [.int (240 : Int32), .int ((m.1 x0 6) + x2)] rfl (fun _ => rfl) rfl ?_
      refine dw_if (fun t => Φ (Option.bind t (dc_bk (d_X4_isWord_l28s x0 x1 m)))) (240 ≤ (Int32.toInt ((m.1 x0 6) + x2))) [] 75 48 rfl (fun _ => rfl) (fun c1 => ?_) (fun c1 => ?_)
      · refine dw_g rfl ?_
        refine dg_s (pc' := 76) [.int (1 : Int32)] rfl (fun _ => rfl) rfl ?_
        exact dw_r (some (.inl (some (.int (1 : Int32)), m))) rfl (fun _ => rfl) (kR _)
      · refine dw_g rfl ?_
        refine dg_s (pc' := 49) [.ref x0] rfl (fun _ => rfl) rfl ?_
        refine dg_s (pc' := 52) [.ref (x0 + 1)] rfl (fun _ => rfl) rfl ?_
        refine dg_s (pc' := 53) [.ref x0, .ref (x0 + 1)] rfl (fun _ => rfl) rfl ?_
        refine dg_s (pc' := 56) [.int (m.1 x0 6), .ref (x0 + 1)] rfl (fun _ => rfl) rfl ?_
        refine dg_s (pc' := 57) [.int x2, .int (m.1 x0 6), .ref (x0 + 1)] rfl (fun _ => rfl) rfl ?_
        refine dg_s (pc' := 58) [.int ((m.1 x0 6) + x2), .ref (x0 + 1)] rfl (fun _ => rfl) rfl ?_
        refine dg_s (pc' := 59) [.int (m.1 (x0 + 1) (Int32.toNatClampNeg ((m.1 x0 6) + x2)))] rfl (fun _ => rfl) rfl ?_
        refine dg_s (pc' := 60) [.retAddr x1, .int (m.1 (x0 + 1) (Int32.toNatClampNeg ((m.1 x0 6) + x2)))] rfl (fun _ => rfl) rfl ?_
        refine dg_s (pc' := 61) [.int x2, .retAddr x1, .int (m.1 (x0 + 1) (Int32.toNatClampNeg ((m.1 x0 6) + x2)))] rfl (fun _ => rfl) rfl ?_
        refine dg_s (pc' := 64) [.int (d_J0_charAt_5068e x1 x2 m), .int (m.1 (x0 + 1) (Int32.toNatClampNeg ((m.1 x0 6) + x2)))] rfl (fun _ => rfl) rfl ?_
        refine dw_if (fun t => Φ (Option.bind t (dc_bk (d_X4_isWord_l28s x0 x1 m)))) ((Int32.toInt (m.1 (x0 + 1) (Int32.toNatClampNeg ((m.1 x0 6) + x2)))) = (Int32.toInt (d_J0_charAt_5068e x1 x2 m))) [] 69 67 rfl (fun _ => rfl) (fun c2 => ?_) (fun c2 => ?_)
        · refine dw_g rfl ?_
          refine dg_L (pc' := 72) [(2, .int (x2 + (1 : Int32))), (0, .ref x0), (1, .retAddr x1)] [] rfl (fun _ => rfl) rfl ?_
          refine dw_s (pc' := 28) [] rfl (fun _ => rfl) ?_
          exact dw_j rfl (fun lv1 hv => ih (x2 + (1 : Int32)) lv1 (hv.1 _ rfl) (hv.2.1 _ rfl) (hv.2.2.1 _ rfl))
        · refine dw_g rfl ?_
          refine dg_s (pc' := 68) [.int (0 : Int32)] rfl (fun _ => rfl) rfl ?_
          exact dw_r (some (.inl (some (.int (0 : Int32)), m))) rfl (fun _ => rfl) (kR _)
noncomputable def d_X4_isWord (x0 : Nat) (x1 : Nat) (m : dc_M) : Option Int32 :=
  (if ¬ (Int32.toInt (m.1 x0 5)) = 1 then some ((0 : Int32)) else (if (Int32.toInt ((m.1 x0 4) - (m.1 x0 6))) = (Int32.toInt (d_J0_length_8abf5 x1 m)) then (d_X4_isWord_l28 x0 x1 (0 : Int32) m) else some ((0 : Int32))))
set_option maxHeartbeats 8000000 in
theorem k_X4_isWord {u : Nat} {N : Nat} {Φ : (Option Int32) → Option Value → dc_M → Prop} (x0 : Nat) (x1 : Nat) (m : dc_M) (kR : ∀ (v : Int32), Φ (some (v)) (some (.int v)) m)  {lv : ab_L} (f0 : ab_lk lv 0 = some (.ref x0)) (f1 : ab_lk lv 1 = some (.retAddr x1)) : dc_pv u N ab_M_X4_isWord 0 lv [] m (Φ (d_X4_isWord x0 x1 m)) := by
  refine dc_pv.mono (dc_ok (C := C_X4_isWord) (S := S_X4_isWord) CO_X4_isWord 400 0 [(0, .ref x0), (1, .retAddr x1)] lv [] m (dc_sub_cons f0 (dc_sub_cons f1 (dc_sub_nil))) ?_) (Nat.le_succ N)
  unfold d_X4_isWord
  refine dg_s (pc' := 1) [.ref x0] rfl (fun _ => rfl) rfl ?_
  refine dg_s (pc' := 4) [.int (m.1 x0 5)] rfl (fun _ => rfl) rfl ?_
  refine dg_s (pc' := 5) [.int (1 : Int32), .int (m.1 x0 5)] rfl (fun _ => rfl) rfl ?_
  refine dw_if (fun t => Φ t) (¬ (Int32.toInt (m.1 x0 5)) = 1) [] 24 8 rfl (fun _ => rfl) (fun c0 => ?_) (fun c0 => ?_)
  · refine dw_g rfl ?_
    refine dg_s (pc' := 25) [.int (0 : Int32)] rfl (fun _ => rfl) rfl ?_
    exact dw_r (some (.inl (some (.int (0 : Int32)), m))) rfl (fun _ => rfl) (kR _)
  · refine dw_g rfl ?_
    refine dg_s (pc' := 9) [.ref x0] rfl (fun _ => rfl) rfl ?_
    refine dg_s (pc' := 12) [.int (m.1 x0 4)] rfl (fun _ => rfl) rfl ?_
    refine dg_s (pc' := 13) [.ref x0, .int (m.1 x0 4)] rfl (fun _ => rfl) rfl ?_
    refine dg_s (pc' := 16) [.int (m.1 x0 6), .int (m.1 x0 4)] rfl (fun _ => rfl) rfl ?_
    refine dg_s (pc' := 17) [.int ((m.1 x0 4) - (m.1 x0 6))] rfl (fun _ => rfl) rfl ?_
    refine dg_s (pc' := 18) [.retAddr x1, .int ((m.1 x0 4) - (m.1 x0 6))] rfl (fun _ => rfl) rfl ?_
    refine dg_s (pc' := 21) [.int (d_J0_length_8abf5 x1 m), .int ((m.1 x0 4) - (m.1 x0 6))] rfl (fun _ => rfl) rfl ?_
    refine dw_if (fun t => Φ t) ((Int32.toInt ((m.1 x0 4) - (m.1 x0 6))) = (Int32.toInt (d_J0_length_8abf5 x1 m))) [] 26 24 rfl (fun _ => rfl) (fun c1 => ?_) (fun c1 => ?_)
    · refine dw_g rfl ?_
      refine dg_s (pc' := 27) [.int (0 : Int32)] rfl (fun _ => rfl) rfl ?_
      refine dw_L (pc' := 28) [(2, .int (0 : Int32)), (0, .ref x0), (1, .retAddr x1)] [] rfl (fun _ => rfl) ?_
      exact dw_j rfl (fun lv1 hv => k_X4_isWord_l28 (Φ := (fun t => Φ t)) x0 x1 m (fun _a  => kR _a) N  (0 : Int32) lv1 (hv.1 _ rfl) (hv.2.1 _ rfl) (hv.2.2.1 _ rfl))
    · refine dw_g rfl ?_
      refine dg_s (pc' := 25) [.int (0 : Int32)] rfl (fun _ => rfl) rfl ?_
      exact dw_r (some (.inl (some (.int (0 : Int32)), m))) rfl (fun _ => rfl) (kR _)
noncomputable def H_X4_isWord : dc_H := fun As m k => match As with
  | [.ref x0, .retAddr x1] => (d_X4_isWord x0 x1 m).bind (fun q => k (some (.int q)) m)
  | _ => dc_kz
theorem H_X4_isWord_ok {u : Nat} : dc_cok u 59 H_X4_isWord := fun M' hG N As m k P hz hP => by
  obtain rfl : ab_M_X4_isWord = M' := Option.some.inj hG
  unfold H_X4_isWord at hP
  split at hP
  · rename_i x0 x1
    exact dc_pv.imp (k_X4_isWord (Φ := fun (t : Option Int32) r m' => P (t.bind (fun q => k (some (.int q)) m)) → P (k r m')) x0 x1 m (fun _  h => h) rfl rfl) (fun r m' h => h hP)
  · exact absurd hP hz
def C_X4_isLetter : List (Nat × dc_H) := []
theorem CO_X4_isLetter {u : Nat} : dc_CO u C_X4_isLetter := dc_CO_nil
def S_X4_isLetter : List (Nat × List Nat) := []
def d_X4_isLetter (x0 : Nat) (m : dc_M) : Int32 :=
  (if ¬ (Int32.toInt (m.1 x0 5)) = 1 then (0 : Int32) else (if ¬ (Int32.toInt ((m.1 x0 4) - (m.1 x0 6))) = 1 then (0 : Int32) else (1 : Int32)))
set_option maxHeartbeats 8000000 in
theorem k_X4_isLetter {u : Nat} {N : Nat} {Φ : Int32 → Option Value → dc_M → Prop} (x0 : Nat) (m : dc_M) (kR : ∀ (v : Int32), Φ (v) (some (.int v)) m)  {lv : ab_L} (f0 : ab_lk lv 0 = some (.ref x0)) : dc_pv u N ab_M_X4_isLetter 0 lv [] m (Φ (d_X4_isLetter x0 m)) := by
  refine dc_pv.mono (dc_ok (C := C_X4_isLetter) (S := S_X4_isLetter) CO_X4_isLetter 400 0 [(0, .ref x0)] lv [] m (dc_sub_cons f0 (dc_sub_nil)) ?_) (Nat.le_succ N)
  unfold d_X4_isLetter
  refine dg_s (pc' := 1) [.ref x0] rfl (fun _ => rfl) rfl ?_
  refine dg_s (pc' := 4) [.int (m.1 x0 5)] rfl (fun _ => rfl) rfl ?_
  refine dg_s (pc' := 5) [.int (1 : Int32), .int (m.1 x0 5)] rfl (fun _ => rfl) rfl ?_
  refine dw_if (fun t => Φ t) (¬ (Int32.toInt (m.1 x0 5)) = 1) [] 25 8 rfl (fun _ => rfl) (fun c0 => ?_) (fun c0 => ?_)
  · refine dw_g rfl ?_
    refine dg_s (pc' := 26) [.int (0 : Int32)] rfl (fun _ => rfl) rfl ?_
    exact dw_r (some (.inl (some (.int (0 : Int32)), m))) rfl (fun _ => rfl) (kR _)
  · refine dw_g rfl ?_
    refine dg_s (pc' := 9) [.ref x0] rfl (fun _ => rfl) rfl ?_
    refine dg_s (pc' := 12) [.int (m.1 x0 4)] rfl (fun _ => rfl) rfl ?_
    refine dg_s (pc' := 13) [.ref x0, .int (m.1 x0 4)] rfl (fun _ => rfl) rfl ?_
    refine dg_s (pc' := 16) [.int (m.1 x0 6), .int (m.1 x0 4)] rfl (fun _ => rfl) rfl ?_
    refine dg_s (pc' := 17) [.int ((m.1 x0 4) - (m.1 x0 6))] rfl (fun _ => rfl) rfl ?_
    refine dg_s (pc' := 18) [.int (1 : Int32), .int ((m.1 x0 4) - (m.1 x0 6))] rfl (fun _ => rfl) rfl ?_
    refine dw_if (fun t => Φ t) (¬ (Int32.toInt ((m.1 x0 4) - (m.1 x0 6))) = 1) [] 25 21 rfl (fun _ => rfl) (fun c1 => ?_) (fun c1 => ?_)
    · refine dw_g rfl ?_
      refine dg_s (pc' := 26) [.int (0 : Int32)] rfl (fun _ => rfl) rfl ?_
      exact dw_r (some (.inl (some (.int (0 : Int32)), m))) rfl (fun _ => rfl) (kR _)
    · refine dw_g rfl ?_
      refine dg_s (pc' := 22) [.int (1 : Int32)] rfl (fun _ => rfl) rfl ?_
      refine dg_s (pc' := 26) [.int (1 : Int32)] rfl (fun _ => rfl) rfl ?_
      exact dw_r (some (.inl (some (.int (1 : Int32)), m))) rfl (fun _ => rfl) (kR _)
def H_X4_isLetter : dc_H := fun As m k => match As with
  | [.ref x0] => k (some (.int (d_X4_isLetter x0 m))) m
  | _ => dc_kz
theorem H_X4_isLetter_ok {u : Nat} : dc_cok u 57 H_X4_isLetter := fun M' hG N As m k P hz hP => by
  obtain rfl : ab_M_X4_isLetter = M' := Option.some.inj hG
  unfold H_X4_isLetter at hP
  split at hP
  · rename_i x0
    exact dc_pv.imp (k_X4_isLetter (Φ := fun (t : Int32) r m' => P (k (some (.int t)) m) → P (k r m')) x0 m (fun _  h => h) rfl) (fun r m' h => h hP)
  · exact absurd hP hz
def C_X4_isSign : List (Nat × dc_H) := []
theorem CO_X4_isSign {u : Nat} : dc_CO u C_X4_isSign := dc_CO_nil
def S_X4_isSign : List (Nat × List Nat) := []
def d_X4_isSign (x0 : Nat) (x1 : Int32) (m : dc_M) : Int32 :=
  (if ¬ (Int32.toInt (m.1 x0 5)) = 3 then (0 : Int32) else (if ¬ (Int32.toInt (m.1 x0 7)) = (Int32.toInt x1) then (0 : Int32) else (1 : Int32)))
set_option maxHeartbeats 8000000 in
theorem k_X4_isSign {u : Nat} {N : Nat} {Φ : Int32 → Option Value → dc_M → Prop} (x0 : Nat) (x1 : Int32) (m : dc_M) (kR : ∀ (v : Int32), Φ (v) (some (.int v)) m)  {lv : ab_L} (f0 : ab_lk lv 0 = some (.ref x0)) (f1 : ab_lk lv 1 = some (.int x1)) : dc_pv u N ab_M_X4_isSign 0 lv [] m (Φ (d_X4_isSign x0 x1 m)) := by
  refine dc_pv.mono (dc_ok (C := C_X4_isSign) (S := S_X4_isSign) CO_X4_isSign 400 0 [(0, .ref x0), (1, .int x1)] lv [] m (dc_sub_cons f0 (dc_sub_cons f1 (dc_sub_nil))) ?_) (Nat.le_succ N)
  unfold d_X4_isSign
  refine dg_s (pc' := 1) [.ref x0] rfl (fun _ => rfl) rfl ?_
  refine dg_s (pc' := 4) [.int (m.1 x0 5)] rfl (fun _ => rfl) rfl ?_
  refine dg_s (pc' := 5) [.int (3 : Int32), .int (m.1 x0 5)] rfl (fun _ => rfl) rfl ?_
  refine dw_if (fun t => Φ t) (¬ (Int32.toInt (m.1 x0 5)) = 3) [] 20 8 rfl (fun _ => rfl) (fun c0 => ?_) (fun c0 => ?_)
  · refine dw_g rfl ?_
    refine dg_s (pc' := 21) [.int (0 : Int32)] rfl (fun _ => rfl) rfl ?_
    exact dw_r (some (.inl (some (.int (0 : Int32)), m))) rfl (fun _ => rfl) (kR _)
  · refine dw_g rfl ?_
    refine dg_s (pc' := 9) [.ref x0] rfl (fun _ => rfl) rfl ?_
    refine dg_s (pc' := 12) [.int (m.1 x0 7)] rfl (fun _ => rfl) rfl ?_
    refine dg_s (pc' := 13) [.int x1, .int (m.1 x0 7)] rfl (fun _ => rfl) rfl ?_
    refine dw_if (fun t => Φ t) (¬ (Int32.toInt (m.1 x0 7)) = (Int32.toInt x1)) [] 20 16 rfl (fun _ => rfl) (fun c1 => ?_) (fun c1 => ?_)
    · refine dw_g rfl ?_
      refine dg_s (pc' := 21) [.int (0 : Int32)] rfl (fun _ => rfl) rfl ?_
      exact dw_r (some (.inl (some (.int (0 : Int32)), m))) rfl (fun _ => rfl) (kR _)
    · refine dw_g rfl ?_
      refine dg_s (pc' := 17) [.int (1 : Int32)] rfl (fun _ => rfl) rfl ?_
      refine dg_s (pc' := 21) [.int (1 : Int32)] rfl (fun _ => rfl) rfl ?_
      exact dw_r (some (.inl (some (.int (1 : Int32)), m))) rfl (fun _ => rfl) (kR _)
def H_X4_isSign : dc_H := fun As m k => match As with
  | [.ref x0, .int x1] => k (some (.int (d_X4_isSign x0 x1 m))) m
  | _ => dc_kz
theorem H_X4_isSign_ok {u : Nat} : dc_cok u 58 H_X4_isSign := fun M' hG N As m k P hz hP => by
  obtain rfl : ab_M_X4_isSign = M' := Option.some.inj hG
  unfold H_X4_isSign at hP
  split at hP
  · rename_i x0 x1
    exact dc_pv.imp (k_X4_isSign (Φ := fun (t : Int32) r m' => P (k (some (.int t)) m) → P (k r m')) x0 x1 m (fun _  h => h) rfl rfl) (fun r m' h => h hP)
  · exact absurd hP hz
noncomputable def C_X4_numberOf : List (Nat × dc_H) := [(34, H_X3_addEvent), (32, H_X3_eventLike)]
theorem CO_X4_numberOf : dc_CO 3 C_X4_numberOf := dc_CO_cons H_X3_addEvent_ok (dc_CO_cons H_X3_eventLike_ok (dc_CO_nil))
def S_X4_numberOf : List (Nat × List Nat) := []
noncomputable def d_X4_numberOf (x0 : Nat) (x1 : Int32) (x2 : Int32) (x3 : Int32) (m : dc_M) : Option (Int32 × dc_M) :=
  ((d_X3_eventLike (m.2.2.1 x0 8) x1 x2 x3 m).bind (fun q1 => (if (Int32.toInt q1) < 0 then (dc_let (d_X3_addEvent (m.2.2.1 x0 8) x1 x2 x3 m) (fun q2 => some ((q2.1, q2.2)))) else some ((q1, m)))))
set_option maxHeartbeats 8000000 in
theorem k_X4_numberOf {N : Nat} {Φ : (Option (Int32 × dc_M)) → Option Value → dc_M → Prop} (x0 : Nat) (x1 : Int32) (x2 : Int32) (x3 : Int32) (m : dc_M) (kR : ∀ (v : Int32) (m : dc_M), Φ (some ((v, m))) (some (.int v)) m)  {lv : ab_L} (f0 : ab_lk lv 0 = some (.ref x0)) (f1 : ab_lk lv 1 = some (.int x1)) (f2 : ab_lk lv 2 = some (.int x2)) (f3 : ab_lk lv 3 = some (.int x3)) : dc_pv 3 N ab_M_X4_numberOf 0 lv [] m (Φ (d_X4_numberOf x0 x1 x2 x3 m)) := by
  refine dc_pv.mono (dc_ok (C := C_X4_numberOf) (S := S_X4_numberOf) CO_X4_numberOf 400 0 [(0, .ref x0), (1, .int x1), (2, .int x2), (3, .int x3)] lv [] m (dc_sub_cons f0 (dc_sub_cons f1 (dc_sub_cons f2 (dc_sub_cons f3 (dc_sub_nil))))) ?_) (Nat.le_succ N)
  unfold d_X4_numberOf
  refine dg_s (pc' := 1) [.ref x0] rfl (fun _ => rfl) rfl ?_
  refine dg_s (pc' := 4) [.ref (m.2.2.1 x0 8)] rfl (fun _ => rfl) rfl ?_
  refine dg_s (pc' := 5) [.int x1, .ref (m.2.2.1 x0 8)] rfl (fun _ => rfl) rfl ?_
  refine dg_s (pc' := 6) [.int x2, .int x1, .ref (m.2.2.1 x0 8)] rfl (fun _ => rfl) rfl ?_
  refine dg_s (pc' := 7) [.int x3, .int x2, .int x1, .ref (m.2.2.1 x0 8)] rfl (fun _ => rfl) rfl ?_
  refine dw_b (fun t => Φ t) (pc' := 10) (fun q1 => [.int q1]) (fun q1 => m) rfl (fun _ => rfl) (fun q1 => ?_)
  refine dw_g rfl ?_
  refine dg_L (pc' := 12) [(4, .int q1), (0, .ref x0), (1, .int x1), (2, .int x2), (3, .int x3)] [] rfl (fun _ => rfl) rfl ?_
  refine dg_s (pc' := 14) [.int q1] rfl (fun _ => rfl) rfl ?_
  refine dw_if (fun t => Φ t) ((Int32.toInt q1) < 0) [] 22 17 rfl (fun _ => rfl) (fun c0 => ?_) (fun c0 => ?_)
  · refine dw_g rfl ?_
    refine dg_s (pc' := 23) [.ref x0] rfl (fun _ => rfl) rfl ?_
    refine dg_s (pc' := 26) [.ref (m.2.2.1 x0 8)] rfl (fun _ => rfl) rfl ?_
    refine dg_s (pc' := 27) [.int x1, .ref (m.2.2.1 x0 8)] rfl (fun _ => rfl) rfl ?_
    refine dg_s (pc' := 28) [.int x2, .int x1, .ref (m.2.2.1 x0 8)] rfl (fun _ => rfl) rfl ?_
    refine dg_s (pc' := 29) [.int x3, .int x2, .int x1, .ref (m.2.2.1 x0 8)] rfl (fun _ => rfl) rfl ?_
    refine dw_l (fun t => Φ t) (pc' := 32) (fun q2 => [.int q2.1]) (fun q2 => q2.2) rfl (fun _ => rfl) (fun q2 => ?_)
    refine dw_g rfl ?_
    exact dw_r (some (.inl (some (.int q2.1), q2.2))) rfl (fun _ => rfl) (kR _ _)
  · refine dw_g rfl ?_
    refine dg_s (pc' := 19) [.int q1] rfl (fun _ => rfl) rfl ?_
    refine dg_s (pc' := 32) [.int q1] rfl (fun _ => rfl) rfl ?_
    exact dw_r (some (.inl (some (.int q1), m))) rfl (fun _ => rfl) (kR _ _)
noncomputable def H_X4_numberOf : dc_H := fun As m k => match As with
  | [.ref x0, .int x1, .int x2, .int x3] => (d_X4_numberOf x0 x1 x2 x3 m).bind (fun q => k (some (.int q.1)) q.2)
  | _ => dc_kz
theorem H_X4_numberOf_ok : dc_cok 3 53 H_X4_numberOf := fun M' hG N As m k P hz hP => by
  obtain rfl : ab_M_X4_numberOf = M' := Option.some.inj hG
  unfold H_X4_numberOf at hP
  split at hP
  · rename_i x0 x1 x2 x3
    exact dc_pv.imp (k_X4_numberOf (Φ := fun (t : Option (Int32 × dc_M)) r m' => P (t.bind (fun q => k (some (.int q.1)) q.2)) → P (k r m')) x0 x1 x2 x3 m (fun _ _ h => h) rfl rfl rfl rfl) (fun r m' h => h hP)
  · exact absurd hP hz
def C_X4_refuse : List (Nat × dc_H) := []
theorem CO_X4_refuse {u : Nat} : dc_CO u C_X4_refuse := dc_CO_nil
def S_X4_refuse : List (Nat × List Nat) := []
def d_X4_refuse (x0 : Nat) (x1 : Int32) (x2 : Int32) (m : dc_M) : dc_M :=
  (if ¬ (Int32.toInt ((dc_wi m x0 5 (4 : Int32)).1 x0 2)) = 0 then (dc_wi m x0 5 (4 : Int32)) else (dc_wi (dc_wi (dc_wi m x0 5 (4 : Int32)) x0 2 x1) x0 3 x2))
set_option maxHeartbeats 8000000 in
theorem k_X4_refuse {u : Nat} {N : Nat} {Φ : dc_M → Option Value → dc_M → Prop} (x0 : Nat) (x1 : Int32) (x2 : Int32) (m : dc_M) (kR : ∀  (m : dc_M), Φ (m) (none) m)  {lv : ab_L} (f0 : ab_lk lv 0 = some (.ref x0)) (f1 : ab_lk lv 1 = some (.int x1)) (f2 : ab_lk lv 2 = some (.int x2)) : dc_pv u N ab_M_X4_refuse 0 lv [] m (Φ (d_X4_refuse x0 x1 x2 m)) := by
  refine dc_pv.mono (dc_ok (C := C_X4_refuse) (S := S_X4_refuse) CO_X4_refuse 400 0 [(0, .ref x0), (1, .int x1), (2, .int x2)] lv [] m (dc_sub_cons f0 (dc_sub_cons f1 (dc_sub_cons f2 (dc_sub_nil)))) ?_) (Nat.le_succ N)
  unfold d_X4_refuse
  refine dg_s (pc' := 1) [.ref x0] rfl (fun _ => rfl) rfl ?_
  refine dg_s (pc' := 2) [.int (4 : Int32), .ref x0] rfl (fun _ => rfl) rfl ?_
  refine dg_m (pc' := 5) (dc_wi m x0 5 (4 : Int32)) [] rfl (fun _ => rfl) rfl ?_
  refine dg_s (pc' := 6) [.ref x0] rfl (fun _ => rfl) rfl ?_
  refine dg_s (pc' := 9) [.int ((dc_wi m x0 5 (4 : Int32)).1 x0 2)] rfl (fun _ => rfl) rfl ?_
  refine dw_if (fun t => Φ t) (¬ (Int32.toInt ((dc_wi m x0 5 (4 : Int32)).1 x0 2)) = 0) [] 22 12 rfl (fun _ => rfl) (fun c0 => ?_) (fun c0 => ?_)
  · refine dw_g rfl ?_
    exact dw_r (some (.inl (none, (dc_wi m x0 5 (4 : Int32))))) rfl (fun _ => rfl) (kR _)
  · refine dw_g rfl ?_
    refine dg_s (pc' := 13) [.ref x0] rfl (fun _ => rfl) rfl ?_
    refine dg_s (pc' := 14) [.int x1, .ref x0] rfl (fun _ => rfl) rfl ?_
    refine dg_m (pc' := 17) (dc_wi (dc_wi m x0 5 (4 : Int32)) x0 2 x1) [] rfl (fun _ => rfl) rfl ?_
    refine dg_s (pc' := 18) [.ref x0] rfl (fun _ => rfl) rfl ?_
    refine dg_s (pc' := 19) [.int x2, .ref x0] rfl (fun _ => rfl) rfl ?_
    refine dg_m (pc' := 22) (dc_wi (dc_wi (dc_wi m x0 5 (4 : Int32)) x0 2 x1) x0 3 x2) [] rfl (fun _ => rfl) rfl ?_
    exact dw_r (some (.inl (none, (dc_wi (dc_wi (dc_wi m x0 5 (4 : Int32)) x0 2 x1) x0 3 x2)))) rfl (fun _ => rfl) (kR _)
def H_X4_refuse : dc_H := fun As m k => match As with
  | [.ref x0, .int x1, .int x2] => dc_let (d_X4_refuse x0 x1 x2 m) (fun q => k (none) q)
  | _ => dc_kz
theorem H_X4_refuse_ok {u : Nat} : dc_cok u 56 H_X4_refuse := fun M' hG N As m k P hz hP => by
  obtain rfl : ab_M_X4_refuse = M' := Option.some.inj hG
  unfold H_X4_refuse at hP
  split at hP
  · rename_i x0 x1 x2
    exact dc_pv.imp (k_X4_refuse (Φ := fun (t : dc_M) r m' => P (dc_let t (fun q => k (none) q)) → P (k r m')) x0 x1 x2 m (fun _ h => h) rfl rfl rfl) (fun r m' h => h hP)
  · exact absurd hP hz
def C_X4_isFigure : List (Nat × dc_H) := []
theorem CO_X4_isFigure {u : Nat} : dc_CO u C_X4_isFigure := dc_CO_nil
def S_X4_isFigure : List (Nat × List Nat) := []
def d_X4_isFigure (x0 : Int32) (m : dc_M) : Int32 :=
  (if (Int32.toInt x0) < 48 then (0 : Int32) else (if 57 < (Int32.toInt x0) then (0 : Int32) else (1 : Int32)))
set_option maxHeartbeats 8000000 in
theorem k_X4_isFigure {u : Nat} {N : Nat} {Φ : Int32 → Option Value → dc_M → Prop} (x0 : Int32) (m : dc_M) (kR : ∀ (v : Int32), Φ (v) (some (.int v)) m)  {lv : ab_L} (f0 : ab_lk lv 0 = some (.int x0)) : dc_pv u N ab_M_X4_isFigure 0 lv [] m (Φ (d_X4_isFigure x0 m)) := by
  refine dc_pv.mono (dc_ok (C := C_X4_isFigure) (S := S_X4_isFigure) CO_X4_isFigure 400 0 [(0, .int x0)] lv [] m (dc_sub_cons f0 (dc_sub_nil)) ?_) (Nat.le_succ N)
  unfold d_X4_isFigure
  refine dg_s (pc' := 1) [.int x0] rfl (fun _ => rfl) rfl ?_
  refine dg_s (pc' := 3) [.int (48 : Int32), .int x0] rfl (fun _ => rfl) rfl ?_
  refine dw_if (fun t => Φ t) ((Int32.toInt x0) < 48) [] 16 6 rfl (fun _ => rfl) (fun c0 => ?_) (fun c0 => ?_)
  · refine dw_g rfl ?_
    refine dg_s (pc' := 17) [.int (0 : Int32)] rfl (fun _ => rfl) rfl ?_
    exact dw_r (some (.inl (some (.int (0 : Int32)), m))) rfl (fun _ => rfl) (kR _)
  · refine dw_g rfl ?_
    refine dg_s (pc' := 7) [.int x0] rfl (fun _ => rfl) rfl ?_
    refine dg_s (pc' := 9) [.int (57 : Int32), .int x0] rfl (fun _ => rfl) rfl ?_
    refine dw_if (fun t => Φ t) (57 < (Int32.toInt x0)) [] 16 12 rfl (fun _ => rfl) (fun c1 => ?_) (fun c1 => ?_)
    · refine dw_g rfl ?_
      refine dg_s (pc' := 17) [.int (0 : Int32)] rfl (fun _ => rfl) rfl ?_
      exact dw_r (some (.inl (some (.int (0 : Int32)), m))) rfl (fun _ => rfl) (kR _)
    · refine dw_g rfl ?_
      refine dg_s (pc' := 13) [.int (1 : Int32)] rfl (fun _ => rfl) rfl ?_
      refine dg_s (pc' := 17) [.int (1 : Int32)] rfl (fun _ => rfl) rfl ?_
      exact dw_r (some (.inl (some (.int (1 : Int32)), m))) rfl (fun _ => rfl) (kR _)
def H_X4_isFigure : dc_H := fun As m k => match As with
  | [.int x0] => k (some (.int (d_X4_isFigure x0 m))) m
  | _ => dc_kz
theorem H_X4_isFigure_ok {u : Nat} : dc_cok u 61 H_X4_isFigure := fun M' hG N As m k P hz hP => by
  obtain rfl : ab_M_X4_isFigure = M' := Option.some.inj hG
  unfold H_X4_isFigure at hP
  split at hP
  · rename_i x0
    exact dc_pv.imp (k_X4_isFigure (Φ := fun (t : Int32) r m' => P (k (some (.int t)) m) → P (k r m')) x0 m (fun _  h => h) rfl) (fun r m' h => h hP)
  · exact absurd hP hz
def C_X4_isSmallLetter : List (Nat × dc_H) := []
theorem CO_X4_isSmallLetter {u : Nat} : dc_CO u C_X4_isSmallLetter := dc_CO_nil
def S_X4_isSmallLetter : List (Nat × List Nat) := []
def d_X4_isSmallLetter (x0 : Int32) (m : dc_M) : Int32 :=
  (if (Int32.toInt x0) < 97 then (0 : Int32) else (if 122 < (Int32.toInt x0) then (0 : Int32) else (1 : Int32)))
set_option maxHeartbeats 8000000 in
theorem k_X4_isSmallLetter {u : Nat} {N : Nat} {Φ : Int32 → Option Value → dc_M → Prop} (x0 : Int32) (m : dc_M) (kR : ∀ (v : Int32), Φ (v) (some (.int v)) m)  {lv : ab_L} (f0 : ab_lk lv 0 = some (.int x0)) : dc_pv u N ab_M_X4_isSmallLetter 0 lv [] m (Φ (d_X4_isSmallLetter x0 m)) := by
  refine dc_pv.mono (dc_ok (C := C_X4_isSmallLetter) (S := S_X4_isSmallLetter) CO_X4_isSmallLetter 400 0 [(0, .int x0)] lv [] m (dc_sub_cons f0 (dc_sub_nil)) ?_) (Nat.le_succ N)
  unfold d_X4_isSmallLetter
  refine dg_s (pc' := 1) [.int x0] rfl (fun _ => rfl) rfl ?_
  refine dg_s (pc' := 3) [.int (97 : Int32), .int x0] rfl (fun _ => rfl) rfl ?_
  refine dw_if (fun t => Φ t) ((Int32.toInt x0) < 97) [] 16 6 rfl (fun _ => rfl) (fun c0 => ?_) (fun c0 => ?_)
  · refine dw_g rfl ?_
    refine dg_s (pc' := 17) [.int (0 : Int32)] rfl (fun _ => rfl) rfl ?_
    exact dw_r (some (.inl (some (.int (0 : Int32)), m))) rfl (fun _ => rfl) (kR _)
  · refine dw_g rfl ?_
    refine dg_s (pc' := 7) [.int x0] rfl (fun _ => rfl) rfl ?_
    refine dg_s (pc' := 9) [.int (122 : Int32), .int x0] rfl (fun _ => rfl) rfl ?_
    refine dw_if (fun t => Φ t) (122 < (Int32.toInt x0)) [] 16 12 rfl (fun _ => rfl) (fun c1 => ?_) (fun c1 => ?_)
    · refine dw_g rfl ?_
      refine dg_s (pc' := 17) [.int (0 : Int32)] rfl (fun _ => rfl) rfl ?_
      exact dw_r (some (.inl (some (.int (0 : Int32)), m))) rfl (fun _ => rfl) (kR _)
    · refine dw_g rfl ?_
      refine dg_s (pc' := 13) [.int (1 : Int32)] rfl (fun _ => rfl) rfl ?_
      refine dg_s (pc' := 17) [.int (1 : Int32)] rfl (fun _ => rfl) rfl ?_
      exact dw_r (some (.inl (some (.int (1 : Int32)), m))) rfl (fun _ => rfl) (kR _)
def H_X4_isSmallLetter : dc_H := fun As m k => match As with
  | [.int x0] => k (some (.int (d_X4_isSmallLetter x0 m))) m
  | _ => dc_kz
theorem H_X4_isSmallLetter_ok {u : Nat} : dc_cok u 60 H_X4_isSmallLetter := fun M' hG N As m k P hz hP => by
  obtain rfl : ab_M_X4_isSmallLetter = M' := Option.some.inj hG
  unfold H_X4_isSmallLetter at hP
  split at hP
  · rename_i x0
    exact dc_pv.imp (k_X4_isSmallLetter (Φ := fun (t : Int32) r m' => P (k (some (.int t)) m) → P (k r m')) x0 m (fun _  h => h) rfl) (fun r m' h => h hP)
  · exact absurd hP hz
def C_X4_take : List (Nat × dc_H) := [(61, H_X4_isFigure), (60, H_X4_isSmallLetter), (56, H_X4_refuse)]
theorem CO_X4_take {u : Nat} : dc_CO u C_X4_take := dc_CO_cons H_X4_isFigure_ok (dc_CO_cons H_X4_isSmallLetter_ok (dc_CO_cons H_X4_refuse_ok (dc_CO_nil)))
def S_X4_take : List (Nat × List Nat) := [(8, [0]), (46, [0]), (109, [0])]
noncomputable def d_X4_take_l109b (x0 : Nat)  (m : dc_M) : Option (dc_M ⊕ dc_M) :=
  (if (Int32.toInt (m.1 x0 1)) ≤ (Int32.toInt (m.1 x0 4)) then some (Sum.inr (m)) else (if (Int32.toInt (d_X4_isSmallLetter (m.1 (x0 + 1) (Int32.toNatClampNeg (m.1 x0 4))) m)) = 0 then some (Sum.inr (m)) else some (Sum.inl (dc_wi m x0 4 ((m.1 x0 4) + (1 : Int32))))))
noncomputable def d_X4_take_l109s (x0 : Nat) : dc_M → Option (dc_M ⊕ dc_M) := fun s => d_X4_take_l109b x0 s
noncomputable def d_X4_take_l109 (x0 : Nat)  (m : dc_M) : Option dc_M := dc_lp (d_X4_take_l109s x0) m
set_option maxHeartbeats 8000000 in
theorem k_X4_take_l109 {u : Nat} {Φ : (Option dc_M) → Option Value → dc_M → Prop} (x0 : Nat) (kR : ∀  (m : dc_M), Φ (some (m)) (none) m) : ∀ (N : Nat), ∀  (m : dc_M) (lv : ab_L), ab_lk lv 0 = some (.ref x0) → dc_pv u N ab_M_X4_take 109 lv [] m (Φ (d_X4_take_l109 x0  m)) := by
  intro N
  induction N with
  | zero => intros; exact dc_pv_zero
  | succ N ih =>
    intro m lv f0
    refine dc_ok (C := C_X4_take) (S := S_X4_take) CO_X4_take 400 109 [(0, .ref x0)] lv [] m (dc_sub_cons f0 (dc_sub_nil)) ?_
    unfold d_X4_take_l109
    rw [dc_lp_eq]
    show (fun t x => dc_lf u N ab_M_X4_take (Φ (Option.bind t (dc_bk (d_X4_take_l109s x0)))) x) (d_X4_take_l109b x0  m) _
    dsimp only
    unfold d_X4_take_l109b
    refine dg_s (pc' := 110) [.ref x0] rfl (fun _ => rfl) rfl ?_
    refine dg_s (pc' := 113) [.int (m.1 x0 4)] rfl (fun _ => rfl) rfl ?_
    refine dg_s (pc' := 114) [.ref x0, .int (m.1 x0 4)] rfl (fun _ => rfl) rfl ?_
    refine dg_s (pc' := 117) [.int (m.1 x0 1), .int (m.1 x0 4)] rfl (fun _ => rfl) rfl ?_
    refine dw_if (fun t => Φ (Option.bind t (dc_bk (d_X4_take_l109s x0)))) ((Int32.toInt (m.1 x0 1)) ≤ (Int32.toInt (m.1 x0 4))) [] 263 120 rfl (fun _ => rfl) (fun c0 => ?_) (fun c0 => ?_)
    · refine dw_g rfl ?_
      exact dw_r (some (.inl (none, m))) rfl (fun _ => rfl) (kR _)
    · refine dw_g rfl ?_
      refine dg_s (pc' := 121) [.ref x0] rfl (fun _ => rfl) rfl ?_
      refine dg_s (pc' := 124) [.ref (x0 + 1)] rfl (fun _ => rfl) rfl ?_
      refine dg_s (pc' := 125) [.ref x0, .ref (x0 + 1)] rfl (fun _ => rfl) rfl ?_
      refine dg_s (pc' := 128) [.int (m.1 x0 4), .ref (x0 + 1)] rfl (fun _ => rfl) rfl ?_
      refine dg_s (pc' := 129) [.int (m.1 (x0 + 1) (Int32.toNatClampNeg (m.1 x0 4)))] rfl (fun _ => rfl) rfl ?_
      refine dg_s (pc' := 132) [.int (d_X4_isSmallLetter (m.1 (x0 + 1) (Int32.toNatClampNeg (m.1 x0 4))) m)] rfl (fun _ => rfl) rfl ?_
      refine dw_if (fun t => Φ (Option.bind t (dc_bk (d_X4_take_l109s x0)))) ((Int32.toInt (d_X4_isSmallLetter (m.1 (x0 + 1) (Int32.toNatClampNeg (m.1 x0 4))) m)) = 0) [] 263 135 rfl (fun _ => rfl) (fun c1 => ?_) (fun c1 => ?_)
      · refine dw_g rfl ?_
        exact dw_r (some (.inl (none, m))) rfl (fun _ => rfl) (kR _)
      · refine dw_g rfl ?_
        refine dg_s (pc' := 136) [.ref x0] rfl (fun _ => rfl) rfl ?_
        refine dg_s (pc' := 137) [.ref x0, .ref x0] rfl (fun _ => rfl) rfl ?_
        refine dg_s (pc' := 140) [.int (m.1 x0 4), .ref x0] rfl (fun _ => rfl) rfl ?_
        refine dg_s (pc' := 141) [.int (1 : Int32), .int (m.1 x0 4), .ref x0] rfl (fun _ => rfl) rfl ?_
        refine dg_s (pc' := 142) [.int ((m.1 x0 4) + (1 : Int32)), .ref x0] rfl (fun _ => rfl) rfl ?_
        refine dg_m (pc' := 145) (dc_wi m x0 4 ((m.1 x0 4) + (1 : Int32))) [] rfl (fun _ => rfl) rfl ?_
        refine dw_s (pc' := 109) [] rfl (fun _ => rfl) ?_
        exact dw_j rfl (fun lv1 hv => ih (dc_wi m x0 4 ((m.1 x0 4) + (1 : Int32))) lv1 (hv.1 _ rfl))
noncomputable def d_X4_take_b46 (x0 : Nat) (m : dc_M) : Option dc_M :=
  (if (Int32.toInt ((dc_wi m x0 6 (m.1 x0 4)).1 x0 4)) < (Int32.toInt ((dc_wi m x0 6 (m.1 x0 4)).1 x0 1)) then (if (Int32.toInt (d_X4_isSmallLetter ((dc_wi (dc_wi (dc_wi m x0 6 (m.1 x0 4)) x0 7 ((dc_wi m x0 6 (m.1 x0 4)).1 (x0 + 1) (Int32.toNatClampNeg ((dc_wi m x0 6 (m.1 x0 4)).1 x0 4)))) x0 4 (((dc_wi (dc_wi m x0 6 (m.1 x0 4)) x0 7 ((dc_wi m x0 6 (m.1 x0 4)).1 (x0 + 1) (Int32.toNatClampNeg ((dc_wi m x0 6 (m.1 x0 4)).1 x0 4)))).1 x0 4) + (1 : Int32))).1 x0 7) (dc_wi (dc_wi (dc_wi m x0 6 (m.1 x0 4)) x0 7 ((dc_wi m x0 6 (m.1 x0 4)).1 (x0 + 1) (Int32.toNatClampNeg ((dc_wi m x0 6 (m.1 x0 4)).1 x0 4)))) x0 4 (((dc_wi (dc_wi m x0 6 (m.1 x0 4)) x0 7 ((dc_wi m x0 6 (m.1 x0 4)).1 (x0 + 1) (Int32.toNatClampNeg ((dc_wi m x0 6 (m.1 x0 4)).1 x0 4)))).1 x0 4) + (1 : Int32))))) = 0 then (if (Int32.toInt (d_X4_isFigure ((dc_wi (dc_wi (dc_wi m x0 6 (m.1 x0 4)) x0 7 ((dc_wi m x0 6 (m.1 x0 4)).1 (x0 + 1) (Int32.toNatClampNeg ((dc_wi m x0 6 (m.1 x0 4)).1 x0 4)))) x0 4 (((dc_wi (dc_wi m x0 6 (m.1 x0 4)) x0 7 ((dc_wi m x0 6 (m.1 x0 4)).1 (x0 + 1) (Int32.toNatClampNeg ((dc_wi m x0 6 (m.1 x0 4)).1 x0 4)))).1 x0 4) + (1 : Int32))).1 x0 7) (dc_wi (dc_wi (dc_wi m x0 6 (m.1 x0 4)) x0 7 ((dc_wi m x0 6 (m.1 x0 4)).1 (x0 + 1) (Int32.toNatClampNeg ((dc_wi m x0 6 (m.1 x0 4)).1 x0 4)))) x0 4 (((dc_wi (dc_wi m x0 6 (m.1 x0 4)) x0 7 ((dc_wi m x0 6 (m.1 x0 4)).1 (x0 + 1) (Int32.toNatClampNeg ((dc_wi m x0 6 (m.1 x0 4)).1 x0 4)))).1 x0 4) + (1 : Int32))))) = 0 then (if (Int32.toInt ((dc_wi (dc_wi (dc_wi m x0 6 (m.1 x0 4)) x0 7 ((dc_wi m x0 6 (m.1 x0 4)).1 (x0 + 1) (Int32.toNatClampNeg ((dc_wi m x0 6 (m.1 x0 4)).1 x0 4)))) x0 4 (((dc_wi (dc_wi m x0 6 (m.1 x0 4)) x0 7 ((dc_wi m x0 6 (m.1 x0 4)).1 (x0 + 1) (Int32.toNatClampNeg ((dc_wi m x0 6 (m.1 x0 4)).1 x0 4)))).1 x0 4) + (1 : Int32))).1 x0 7)) = 43 then some ((dc_wi (dc_wi (dc_wi (dc_wi m x0 6 (m.1 x0 4)) x0 7 ((dc_wi m x0 6 (m.1 x0 4)).1 (x0 + 1) (Int32.toNatClampNeg ((dc_wi m x0 6 (m.1 x0 4)).1 x0 4)))) x0 4 (((dc_wi (dc_wi m x0 6 (m.1 x0 4)) x0 7 ((dc_wi m x0 6 (m.1 x0 4)).1 (x0 + 1) (Int32.toNatClampNeg ((dc_wi m x0 6 (m.1 x0 4)).1 x0 4)))).1 x0 4) + (1 : Int32))) x0 5 (3 : Int32))) else (if (Int32.toInt ((dc_wi (dc_wi (dc_wi m x0 6 (m.1 x0 4)) x0 7 ((dc_wi m x0 6 (m.1 x0 4)).1 (x0 + 1) (Int32.toNatClampNeg ((dc_wi m x0 6 (m.1 x0 4)).1 x0 4)))) x0 4 (((dc_wi (dc_wi m x0 6 (m.1 x0 4)) x0 7 ((dc_wi m x0 6 (m.1 x0 4)).1 (x0 + 1) (Int32.toNatClampNeg ((dc_wi m x0 6 (m.1 x0 4)).1 x0 4)))).1 x0 4) + (1 : Int32))).1 x0 7)) = 45 then some ((dc_wi (dc_wi (dc_wi (dc_wi m x0 6 (m.1 x0 4)) x0 7 ((dc_wi m x0 6 (m.1 x0 4)).1 (x0 + 1) (Int32.toNatClampNeg ((dc_wi m x0 6 (m.1 x0 4)).1 x0 4)))) x0 4 (((dc_wi (dc_wi m x0 6 (m.1 x0 4)) x0 7 ((dc_wi m x0 6 (m.1 x0 4)).1 (x0 + 1) (Int32.toNatClampNeg ((dc_wi m x0 6 (m.1 x0 4)).1 x0 4)))).1 x0 4) + (1 : Int32))) x0 5 (3 : Int32))) else (if (Int32.toInt ((dc_wi (dc_wi (dc_wi m x0 6 (m.1 x0 4)) x0 7 ((dc_wi m x0 6 (m.1 x0 4)).1 (x0 + 1) (Int32.toNatClampNeg ((dc_wi m x0 6 (m.1 x0 4)).1 x0 4)))) x0 4 (((dc_wi (dc_wi m x0 6 (m.1 x0 4)) x0 7 ((dc_wi m x0 6 (m.1 x0 4)).1 (x0 + 1) (Int32.toNatClampNeg ((dc_wi m x0 6 (m.1 x0 4)).1 x0 4)))).1 x0 4) + (1 : Int32))).1 x0 7)) = 47 then some ((dc_wi (dc_wi (dc_wi (dc_wi m x0 6 (m.1 x0 4)) x0 7 ((dc_wi m x0 6 (m.1 x0 4)).1 (x0 + 1) (Int32.toNatClampNeg ((dc_wi m x0 6 (m.1 x0 4)).1 x0 4)))) x0 4 (((dc_wi (dc_wi m x0 6 (m.1 x0 4)) x0 7 ((dc_wi m x0 6 (m.1 x0 4)).1 (x0 + 1) (Int32.toNatClampNeg ((dc_wi m x0 6 (m.1 x0 4)).1 x0 4)))).1 x0 4) + (1 : Int32))) x0 5 (3 : Int32))) else (if (Int32.toInt ((dc_wi (dc_wi (dc_wi m x0 6 (m.1 x0 4)) x0 7 ((dc_wi m x0 6 (m.1 x0 4)).1 (x0 + 1) (Int32.toNatClampNeg ((dc_wi m x0 6 (m.1 x0 4)).1 x0 4)))) x0 4 (((dc_wi (dc_wi m x0 6 (m.1 x0 4)) x0 7 ((dc_wi m x0 6 (m.1 x0 4)).1 (x0 + 1) (Int32.toNatClampNeg ((dc_wi m x0 6 (m.1 x0 4)).1 x0 4)))).1 x0 4) + (1 : Int32))).1 x0 7)) = 62 then some ((dc_wi (dc_wi (dc_wi (dc_wi m x0 6 (m.1 x0 4)) x0 7 ((dc_wi m x0 6 (m.1 x0 4)).1 (x0 + 1) (Int32.toNatClampNeg ((dc_wi m x0 6 (m.1 x0 4)).1 x0 4)))) x0 4 (((dc_wi (dc_wi m x0 6 (m.1 x0 4)) x0 7 ((dc_wi m x0 6 (m.1 x0 4)).1 (x0 + 1) (Int32.toNatClampNeg ((dc_wi m x0 6 (m.1 x0 4)).1 x0 4)))).1 x0 4) + (1 : Int32))) x0 5 (3 : Int32))) else (if ¬ (Int32.toInt ((dc_wi (dc_wi (dc_wi m x0 6 (m.1 x0 4)) x0 7 ((dc_wi m x0 6 (m.1 x0 4)).1 (x0 + 1) (Int32.toNatClampNeg ((dc_wi m x0 6 (m.1 x0 4)).1 x0 4)))) x0 4 (((dc_wi (dc_wi m x0 6 (m.1 x0 4)) x0 7 ((dc_wi m x0 6 (m.1 x0 4)).1 (x0 + 1) (Int32.toNatClampNeg ((dc_wi m x0 6 (m.1 x0 4)).1 x0 4)))).1 x0 4) + (1 : Int32))).1 x0 7)) = 59 then (dc_let (d_X4_refuse x0 (1 : Int32) ((dc_wi (dc_wi (dc_wi m x0 6 (m.1 x0 4)) x0 7 ((dc_wi m x0 6 (m.1 x0 4)).1 (x0 + 1) (Int32.toNatClampNeg ((dc_wi m x0 6 (m.1 x0 4)).1 x0 4)))) x0 4 (((dc_wi (dc_wi m x0 6 (m.1 x0 4)) x0 7 ((dc_wi m x0 6 (m.1 x0 4)).1 (x0 + 1) (Int32.toNatClampNeg ((dc_wi m x0 6 (m.1 x0 4)).1 x0 4)))).1 x0 4) + (1 : Int32))).1 x0 6) (dc_wi (dc_wi (dc_wi m x0 6 (m.1 x0 4)) x0 7 ((dc_wi m x0 6 (m.1 x0 4)).1 (x0 + 1) (Int32.toNatClampNeg ((dc_wi m x0 6 (m.1 x0 4)).1 x0 4)))) x0 4 (((dc_wi (dc_wi m x0 6 (m.1 x0 4)) x0 7 ((dc_wi m x0 6 (m.1 x0 4)).1 (x0 + 1) (Int32.toNatClampNeg ((dc_wi m x0 6 (m.1 x0 4)).1 x0 4)))).1 x0 4) + (1 : Int32)))) (fun q1 => some (q1))) else some ((dc_wi (dc_wi (dc_wi (dc_wi m x0 6 (m.1 x0 4)) x0 7 ((dc_wi m x0 6 (m.1 x0 4)).1 (x0 + 1) (Int32.toNatClampNeg ((dc_wi m x0 6 (m.1 x0 4)).1 x0 4)))) x0 4 (((dc_wi (dc_wi m x0 6 (m.1 x0 4)) x0 7 ((dc_wi m x0 6 (m.1 x0 4)).1 (x0 + 1) (Int32.toNatClampNeg ((dc_wi m x0 6 (m.1 x0 4)).1 x0 4)))).1 x0 4) + (1 : Int32))) x0 5 (3 : Int32)))))))) else (if (Int32.toInt ((dc_wi (dc_wi (dc_wi (dc_wi m x0 6 (m.1 x0 4)) x0 7 ((dc_wi m x0 6 (m.1 x0 4)).1 (x0 + 1) (Int32.toNatClampNeg ((dc_wi m x0 6 (m.1 x0 4)).1 x0 4)))) x0 4 (((dc_wi (dc_wi m x0 6 (m.1 x0 4)) x0 7 ((dc_wi m x0 6 (m.1 x0 4)).1 (x0 + 1) (Int32.toNatClampNeg ((dc_wi m x0 6 (m.1 x0 4)).1 x0 4)))).1 x0 4) + (1 : Int32))) x0 5 (2 : Int32)).1 x0 1)) ≤ (Int32.toInt ((dc_wi (dc_wi (dc_wi (dc_wi m x0 6 (m.1 x0 4)) x0 7 ((dc_wi m x0 6 (m.1 x0 4)).1 (x0 + 1) (Int32.toNatClampNeg ((dc_wi m x0 6 (m.1 x0 4)).1 x0 4)))) x0 4 (((dc_wi (dc_wi m x0 6 (m.1 x0 4)) x0 7 ((dc_wi m x0 6 (m.1 x0 4)).1 (x0 + 1) (Int32.toNatClampNeg ((dc_wi m x0 6 (m.1 x0 4)).1 x0 4)))).1 x0 4) + (1 : Int32))) x0 5 (2 : Int32)).1 x0 4)) then some ((dc_wi (dc_wi (dc_wi (dc_wi m x0 6 (m.1 x0 4)) x0 7 ((dc_wi m x0 6 (m.1 x0 4)).1 (x0 + 1) (Int32.toNatClampNeg ((dc_wi m x0 6 (m.1 x0 4)).1 x0 4)))) x0 4 (((dc_wi (dc_wi m x0 6 (m.1 x0 4)) x0 7 ((dc_wi m x0 6 (m.1 x0 4)).1 (x0 + 1) (Int32.toNatClampNeg ((dc_wi m x0 6 (m.1 x0 4)).1 x0 4)))).1 x0 4) + (1 : Int32))) x0 5 (2 : Int32))) else (if (Int32.toInt (d_X4_isFigure ((dc_wi (dc_wi (dc_wi (dc_wi m x0 6 (m.1 x0 4)) x0 7 ((dc_wi m x0 6 (m.1 x0 4)).1 (x0 + 1) (Int32.toNatClampNeg ((dc_wi m x0 6 (m.1 x0 4)).1 x0 4)))) x0 4 (((dc_wi (dc_wi m x0 6 (m.1 x0 4)) x0 7 ((dc_wi m x0 6 (m.1 x0 4)).1 (x0 + 1) (Int32.toNatClampNeg ((dc_wi m x0 6 (m.1 x0 4)).1 x0 4)))).1 x0 4) + (1 : Int32))) x0 5 (2 : Int32)).1 (x0 + 1) (Int32.toNatClampNeg ((dc_wi (dc_wi (dc_wi (dc_wi m x0 6 (m.1 x0 4)) x0 7 ((dc_wi m x0 6 (m.1 x0 4)).1 (x0 + 1) (Int32.toNatClampNeg ((dc_wi m x0 6 (m.1 x0 4)).1 x0 4)))) x0 4 (((dc_wi (dc_wi m x0 6 (m.1 x0 4)) x0 7 ((dc_wi m x0 6 (m.1 x0 4)).1 (x0 + 1) (Int32.toNatClampNeg ((dc_wi m x0 6 (m.1 x0 4)).1 x0 4)))).1 x0 4) + (1 : Int32))) x0 5 (2 : Int32)).1 x0 4))) (dc_wi (dc_wi (dc_wi (dc_wi m x0 6 (m.1 x0 4)) x0 7 ((dc_wi m x0 6 (m.1 x0 4)).1 (x0 + 1) (Int32.toNatClampNeg ((dc_wi m x0 6 (m.1 x0 4)).1 x0 4)))) x0 4 (((dc_wi (dc_wi m x0 6 (m.1 x0 4)) x0 7 ((dc_wi m x0 6 (m.1 x0 4)).1 (x0 + 1) (Int32.toNatClampNeg ((dc_wi m x0 6 (m.1 x0 4)).1 x0 4)))).1 x0 4) + (1 : Int32))) x0 5 (2 : Int32)))) = 0 then some ((dc_wi (dc_wi (dc_wi (dc_wi m x0 6 (m.1 x0 4)) x0 7 ((dc_wi m x0 6 (m.1 x0 4)).1 (x0 + 1) (Int32.toNatClampNeg ((dc_wi m x0 6 (m.1 x0 4)).1 x0 4)))) x0 4 (((dc_wi (dc_wi m x0 6 (m.1 x0 4)) x0 7 ((dc_wi m x0 6 (m.1 x0 4)).1 (x0 + 1) (Int32.toNatClampNeg ((dc_wi m x0 6 (m.1 x0 4)).1 x0 4)))).1 x0 4) + (1 : Int32))) x0 5 (2 : Int32))) else (dc_let (d_X4_refuse x0 (1 : Int32) ((dc_wi (dc_wi (dc_wi (dc_wi m x0 6 (m.1 x0 4)) x0 7 ((dc_wi m x0 6 (m.1 x0 4)).1 (x0 + 1) (Int32.toNatClampNeg ((dc_wi m x0 6 (m.1 x0 4)).1 x0 4)))) x0 4 (((dc_wi (dc_wi m x0 6 (m.1 x0 4)) x0 7 ((dc_wi m x0 6 (m.1 x0 4)).1 (x0 + 1) (Int32.toNatClampNeg ((dc_wi m x0 6 (m.1 x0 4)).1 x0 4)))).1 x0 4) + (1 : Int32))) x0 5 (2 : Int32)).1 x0 6) (dc_wi (dc_wi (dc_wi (dc_wi m x0 6 (m.1 x0 4)) x0 7 ((dc_wi m x0 6 (m.1 x0 4)).1 (x0 + 1) (Int32.toNatClampNeg ((dc_wi m x0 6 (m.1 x0 4)).1 x0 4)))) x0 4 (((dc_wi (dc_wi m x0 6 (m.1 x0 4)) x0 7 ((dc_wi m x0 6 (m.1 x0 4)).1 (x0 + 1) (Int32.toNatClampNeg ((dc_wi m x0 6 (m.1 x0 4)).1 x0 4)))).1 x0 4) + (1 : Int32))) x0 5 (2 : Int32))) (fun q2 => some (q2)))))) else (d_X4_take_l109 x0 (dc_wi (dc_wi (dc_wi (dc_wi m x0 6 (m.1 x0 4)) x0 7 ((dc_wi m x0 6 (m.1 x0 4)).1 (x0 + 1) (Int32.toNatClampNeg ((dc_wi m x0 6 (m.1 x0 4)).1 x0 4)))) x0 4 (((dc_wi (dc_wi m x0 6 (m.1 x0 4)) x0 7 ((dc_wi m x0 6 (m.1 x0 4)).1 (x0 + 1) (Int32.toNatClampNeg ((dc_wi m x0 6 (m.1 x0 4)).1 x0 4)))).1 x0 4) + (1 : Int32))) x0 5 (1 : Int32)))) else some ((dc_wi (dc_wi m x0 6 (m.1 x0 4)) x0 5 (0 : Int32))))
set_option maxHeartbeats 8000000 in
theorem k_X4_take_b46 {u : Nat} {N : Nat} {Φ : (Option dc_M) → Option Value → dc_M → Prop} (x0 : Nat) (m : dc_M) (kR : ∀  (m : dc_M), Φ (some (m)) (none) m)  {lv : ab_L} (f0 : ab_lk lv 0 = some (.ref x0)) : dc_pv u N ab_M_X4_take 46 lv [] m (Φ (d_X4_take_b46 x0 m)) := by
  refine dc_pv.mono (dc_ok (C := C_X4_take) (S := S_X4_take) CO_X4_take 400 46 [(0, .ref x0)] lv [] m (dc_sub_cons f0 (dc_sub_nil)) ?_) (Nat.le_succ N)
  unfold d_X4_take_b46
  refine dg_s (pc' := 47) [.ref x0] rfl (fun _ => rfl) rfl ?_
  refine dg_s (pc' := 48) [.ref x0, .ref x0] rfl (fun _ => rfl) rfl ?_
  refine dg_s (pc' := 51) [.int (m.1 x0 4), .ref x0] rfl (fun _ => rfl) rfl ?_
  refine dg_m (pc' := 54) (dc_wi m x0 6 (m.1 x0 4)) [] rfl (fun _ => rfl) rfl ?_
  refine dg_s (pc' := 55) [.ref x0] rfl (fun _ => rfl) rfl ?_
  refine dg_s (pc' := 58) [.int ((dc_wi m x0 6 (m.1 x0 4)).1 x0 4)] rfl (fun _ => rfl) rfl ?_
  refine dg_s (pc' := 59) [.ref x0, .int ((dc_wi m x0 6 (m.1 x0 4)).1 x0 4)] rfl (fun _ => rfl) rfl ?_
  refine dg_s (pc' := 62) [.int ((dc_wi m x0 6 (m.1 x0 4)).1 x0 1), .int ((dc_wi m x0 6 (m.1 x0 4)).1 x0 4)] rfl (fun _ => rfl) rfl ?_
  refine dw_if (fun t => Φ t) ((Int32.toInt ((dc_wi m x0 6 (m.1 x0 4)).1 x0 4)) < (Int32.toInt ((dc_wi m x0 6 (m.1 x0 4)).1 x0 1))) [] 71 65 rfl (fun _ => rfl) (fun c0 => ?_) (fun c0 => ?_)
  · refine dw_g rfl ?_
    refine dg_s (pc' := 72) [.ref x0] rfl (fun _ => rfl) rfl ?_
    refine dg_s (pc' := 73) [.ref x0, .ref x0] rfl (fun _ => rfl) rfl ?_
    refine dg_s (pc' := 76) [.ref (x0 + 1), .ref x0] rfl (fun _ => rfl) rfl ?_
    refine dg_s (pc' := 77) [.ref x0, .ref (x0 + 1), .ref x0] rfl (fun _ => rfl) rfl ?_
    refine dg_s (pc' := 80) [.int ((dc_wi m x0 6 (m.1 x0 4)).1 x0 4), .ref (x0 + 1), .ref x0] rfl (fun _ => rfl) rfl ?_
    refine dg_s (pc' := 81) [.int ((dc_wi m x0 6 (m.1 x0 4)).1 (x0 + 1) (Int32.toNatClampNeg ((dc_wi m x0 6 (m.1 x0 4)).1 x0 4))), .ref x0] rfl (fun _ => rfl) rfl ?_
    refine dg_m (pc' := 84) (dc_wi (dc_wi m x0 6 (m.1 x0 4)) x0 7 ((dc_wi m x0 6 (m.1 x0 4)).1 (x0 + 1) (Int32.toNatClampNeg ((dc_wi m x0 6 (m.1 x0 4)).1 x0 4)))) [] rfl (fun _ => rfl) rfl ?_
    refine dg_s (pc' := 85) [.ref x0] rfl (fun _ => rfl) rfl ?_
    refine dg_s (pc' := 86) [.ref x0, .ref x0] rfl (fun _ => rfl) rfl ?_
    refine dg_s (pc' := 89) [.int ((dc_wi (dc_wi m x0 6 (m.1 x0 4)) x0 7 ((dc_wi m x0 6 (m.1 x0 4)).1 (x0 + 1) (Int32.toNatClampNeg ((dc_wi m x0 6 (m.1 x0 4)).1 x0 4)))).1 x0 4), .ref x0] rfl (fun _ => rfl) rfl ?_
    refine dg_s (pc' := 90) [.int (1 : Int32), .int ((dc_wi (dc_wi m x0 6 (m.1 x0 4)) x0 7 ((dc_wi m x0 6 (m.1 x0 4)).1 (x0 + 1) (Int32.toNatClampNeg ((dc_wi m x0 6 (m.1 x0 4)).1 x0 4)))).1 x0 4), .ref x0] rfl (fun _ => rfl) rfl ?_
    refine dg_s (pc' := 91) [.int (((dc_wi (dc_wi m x0 6 (m.1 x0 4)) x0 7 ((dc_wi m x0 6 (m.1 x0 4)).1 (x0 + 1) (Int32.toNatClampNeg ((dc_wi m x0 6 (m.1 x0 4)).1 x0 4)))).1 x0 4) + (1 : Int32)), .ref x0] rfl (fun _ => rfl) rfl ?_
    refine dg_m (pc' := 94) (dc_wi (dc_wi (dc_wi m x0 6 (m.1 x0 4)) x0 7 ((dc_wi m x0 6 (m.1 x0 4)).1 (x0 + 1) (Int32.toNatClampNeg ((dc_wi m x0 6 (m.1 x0 4)).1 x0 4)))) x0 4 (((dc_wi (dc_wi m x0 6 (m.1 x0 4)) x0 7 ((dc_wi m x0 6 (m.1 x0 4)).1 (x0 + 1) (Int32.toNatClampNeg ((dc_wi m x0 6 (m.1 x0 4)).1 x0 4)))).1 x0 4) + (1 : Int32))) [] rfl (fun _ => rfl) rfl ?_
    refine dg_s (pc' := 95) [.ref x0] rfl (fun _ => rfl) rfl ?_
    refine dg_s (pc' := 98) [.int ((dc_wi (dc_wi (dc_wi m x0 6 (m.1 x0 4)) x0 7 ((dc_wi m x0 6 (m.1 x0 4)).1 (x0 + 1) (Int32.toNatClampNeg ((dc_wi m x0 6 (m.1 x0 4)).1 x0 4)))) x0 4 (((dc_wi (dc_wi m x0 6 (m.1 x0 4)) x0 7 ((dc_wi m x0 6 (m.1 x0 4)).1 (x0 + 1) (Int32.toNatClampNeg ((dc_wi m x0 6 (m.1 x0 4)).1 x0 4)))).1 x0 4) + (1 : Int32))).1 x0 7)] rfl (fun _ => rfl) rfl ?_
    refine dg_s (pc' := 101) [.int (d_X4_isSmallLetter ((dc_wi (dc_wi (dc_wi m x0 6 (m.1 x0 4)) x0 7 ((dc_wi m x0 6 (m.1 x0 4)).1 (x0 + 1) (Int32.toNatClampNeg ((dc_wi m x0 6 (m.1 x0 4)).1 x0 4)))) x0 4 (((dc_wi (dc_wi m x0 6 (m.1 x0 4)) x0 7 ((dc_wi m x0 6 (m.1 x0 4)).1 (x0 + 1) (Int32.toNatClampNeg ((dc_wi m x0 6 (m.1 x0 4)).1 x0 4)))).1 x0 4) + (1 : Int32))).1 x0 7) (dc_wi (dc_wi (dc_wi m x0 6 (m.1 x0 4)) x0 7 ((dc_wi m x0 6 (m.1 x0 4)).1 (x0 + 1) (Int32.toNatClampNeg ((dc_wi m x0 6 (m.1 x0 4)).1 x0 4)))) x0 4 (((dc_wi (dc_wi m x0 6 (m.1 x0 4)) x0 7 ((dc_wi m x0 6 (m.1 x0 4)).1 (x0 + 1) (Int32.toNatClampNeg ((dc_wi m x0 6 (m.1 x0 4)).1 x0 4)))).1 x0 4) + (1 : Int32))))] rfl (fun _ => rfl) rfl ?_
    refine dw_if (fun t => Φ t) ((Int32.toInt (d_X4_isSmallLetter ((dc_wi (dc_wi (dc_wi m x0 6 (m.1 x0 4)) x0 7 ((dc_wi m x0 6 (m.1 x0 4)).1 (x0 + 1) (Int32.toNatClampNeg ((dc_wi m x0 6 (m.1 x0 4)).1 x0 4)))) x0 4 (((dc_wi (dc_wi m x0 6 (m.1 x0 4)) x0 7 ((dc_wi m x0 6 (m.1 x0 4)).1 (x0 + 1) (Int32.toNatClampNeg ((dc_wi m x0 6 (m.1 x0 4)).1 x0 4)))).1 x0 4) + (1 : Int32))).1 x0 7) (dc_wi (dc_wi (dc_wi m x0 6 (m.1 x0 4)) x0 7 ((dc_wi m x0 6 (m.1 x0 4)).1 (x0 + 1) (Int32.toNatClampNeg ((dc_wi m x0 6 (m.1 x0 4)).1 x0 4)))) x0 4 (((dc_wi (dc_wi m x0 6 (m.1 x0 4)) x0 7 ((dc_wi m x0 6 (m.1 x0 4)).1 (x0 + 1) (Int32.toNatClampNeg ((dc_wi m x0 6 (m.1 x0 4)).1 x0 4)))).1 x0 4) + (1 : Int32))))) = 0) [] 148 104 rfl (fun _ => rfl) (fun c1 => ?_) (fun c1 => ?_)
    · refine dw_g rfl ?_
      refine dg_s (pc' := 149) [.ref x0] rfl (fun _ => rfl) rfl ?_
      refine dg_s (pc' := 152) [.int ((dc_wi (dc_wi (dc_wi m x0 6 (m.1 x0 4)) x0 7 ((dc_wi m x0 6 (m.1 x0 4)).1 (x0 + 1) (Int32.toNatClampNeg ((dc_wi m x0 6 (m.1 x0 4)).1 x0 4)))) x0 4 (((dc_wi (dc_wi m x0 6 (m.1 x0 4)) x0 7 ((dc_wi m x0 6 (m.1 x0 4)).1 (x0 + 1) (Int32.toNatClampNeg ((dc_wi m x0 6 (m.1 x0 4)).1 x0 4)))).1 x0 4) + (1 : Int32))).1 x0 7)] rfl (fun _ => rfl) rfl ?_
      refine dg_s (pc' := 155) [.int (d_X4_isFigure ((dc_wi (dc_wi (dc_wi m x0 6 (m.1 x0 4)) x0 7 ((dc_wi m x0 6 (m.1 x0 4)).1 (x0 + 1) (Int32.toNatClampNeg ((dc_wi m x0 6 (m.1 x0 4)).1 x0 4)))) x0 4 (((dc_wi (dc_wi m x0 6 (m.1 x0 4)) x0 7 ((dc_wi m x0 6 (m.1 x0 4)).1 (x0 + 1) (Int32.toNatClampNeg ((dc_wi m x0 6 (m.1 x0 4)).1 x0 4)))).1 x0 4) + (1 : Int32))).1 x0 7) (dc_wi (dc_wi (dc_wi m x0 6 (m.1 x0 4)) x0 7 ((dc_wi m x0 6 (m.1 x0 4)).1 (x0 + 1) (Int32.toNatClampNeg ((dc_wi m x0 6 (m.1 x0 4)).1 x0 4)))) x0 4 (((dc_wi (dc_wi m x0 6 (m.1 x0 4)) x0 7 ((dc_wi m x0 6 (m.1 x0 4)).1 (x0 + 1) (Int32.toNatClampNeg ((dc_wi m x0 6 (m.1 x0 4)).1 x0 4)))).1 x0 4) + (1 : Int32))))] rfl (fun _ => rfl) rfl ?_
      refine dw_if (fun t => Φ t) ((Int32.toInt (d_X4_isFigure ((dc_wi (dc_wi (dc_wi m x0 6 (m.1 x0 4)) x0 7 ((dc_wi m x0 6 (m.1 x0 4)).1 (x0 + 1) (Int32.toNatClampNeg ((dc_wi m x0 6 (m.1 x0 4)).1 x0 4)))) x0 4 (((dc_wi (dc_wi m x0 6 (m.1 x0 4)) x0 7 ((dc_wi m x0 6 (m.1 x0 4)).1 (x0 + 1) (Int32.toNatClampNeg ((dc_wi m x0 6 (m.1 x0 4)).1 x0 4)))).1 x0 4) + (1 : Int32))).1 x0 7) (dc_wi (dc_wi (dc_wi m x0 6 (m.1 x0 4)) x0 7 ((dc_wi m x0 6 (m.1 x0 4)).1 (x0 + 1) (Int32.toNatClampNeg ((dc_wi m x0 6 (m.1 x0 4)).1 x0 4)))) x0 4 (((dc_wi (dc_wi m x0 6 (m.1 x0 4)) x0 7 ((dc_wi m x0 6 (m.1 x0 4)).1 (x0 + 1) (Int32.toNatClampNeg ((dc_wi m x0 6 (m.1 x0 4)).1 x0 4)))).1 x0 4) + (1 : Int32))))) = 0) [] 201 158 rfl (fun _ => rfl) (fun c2 => ?_) (fun c2 => ?_)
      · refine dw_g rfl ?_
        refine dg_s (pc' := 202) [.ref x0] rfl (fun _ => rfl) rfl ?_
        refine dg_s (pc' := 205) [.int ((dc_wi (dc_wi (dc_wi m x0 6 (m.1 x0 4)) x0 7 ((dc_wi m x0 6 (m.1 x0 4)).1 (x0 + 1) (Int32.toNatClampNeg ((dc_wi m x0 6 (m.1 x0 4)).1 x0 4)))) x0 4 (((dc_wi (dc_wi m x0 6 (m.1 x0 4)) x0 7 ((dc_wi m x0 6 (m.1 x0 4)).1 (x0 + 1) (Int32.toNatClampNeg ((dc_wi m x0 6 (m.1 x0 4)).1 x0 4)))).1 x0 4) + (1 : Int32))).1 x0 7)] rfl (fun _ => rfl) rfl ?_
        refine dg_s (pc' := 207) [.int (43 : Int32), .int ((dc_wi (dc_wi (dc_wi m x0 6 (m.1 x0 4)) x0 7 ((dc_wi m x0 6 (m.1 x0 4)).1 (x0 + 1) (Int32.toNatClampNeg ((dc_wi m x0 6 (m.1 x0 4)).1 x0 4)))) x0 4 (((dc_wi (dc_wi m x0 6 (m.1 x0 4)) x0 7 ((dc_wi m x0 6 (m.1 x0 4)).1 (x0 + 1) (Int32.toNatClampNeg ((dc_wi m x0 6 (m.1 x0 4)).1 x0 4)))).1 x0 4) + (1 : Int32))).1 x0 7)] rfl (fun _ => rfl) rfl ?_
        refine dw_if (fun t => Φ t) ((Int32.toInt ((dc_wi (dc_wi (dc_wi m x0 6 (m.1 x0 4)) x0 7 ((dc_wi m x0 6 (m.1 x0 4)).1 (x0 + 1) (Int32.toNatClampNeg ((dc_wi m x0 6 (m.1 x0 4)).1 x0 4)))) x0 4 (((dc_wi (dc_wi m x0 6 (m.1 x0 4)) x0 7 ((dc_wi m x0 6 (m.1 x0 4)).1 (x0 + 1) (Int32.toNatClampNeg ((dc_wi m x0 6 (m.1 x0 4)).1 x0 4)))).1 x0 4) + (1 : Int32))).1 x0 7)) = 43) [] 246 210 rfl (fun _ => rfl) (fun c3 => ?_) (fun c3 => ?_)
        · refine dw_g rfl ?_
          refine dg_s (pc' := 247) [.ref x0] rfl (fun _ => rfl) rfl ?_
          refine dg_s (pc' := 248) [.int (3 : Int32), .ref x0] rfl (fun _ => rfl) rfl ?_
          refine dg_m (pc' := 251) (dc_wi (dc_wi (dc_wi (dc_wi m x0 6 (m.1 x0 4)) x0 7 ((dc_wi m x0 6 (m.1 x0 4)).1 (x0 + 1) (Int32.toNatClampNeg ((dc_wi m x0 6 (m.1 x0 4)).1 x0 4)))) x0 4 (((dc_wi (dc_wi m x0 6 (m.1 x0 4)) x0 7 ((dc_wi m x0 6 (m.1 x0 4)).1 (x0 + 1) (Int32.toNatClampNeg ((dc_wi m x0 6 (m.1 x0 4)).1 x0 4)))).1 x0 4) + (1 : Int32))) x0 5 (3 : Int32)) [] rfl (fun _ => rfl) rfl ?_
          refine dg_s (pc' := 263) [] rfl (fun _ => rfl) rfl ?_
          exact dw_r (some (.inl (none, (dc_wi (dc_wi (dc_wi (dc_wi m x0 6 (m.1 x0 4)) x0 7 ((dc_wi m x0 6 (m.1 x0 4)).1 (x0 + 1) (Int32.toNatClampNeg ((dc_wi m x0 6 (m.1 x0 4)).1 x0 4)))) x0 4 (((dc_wi (dc_wi m x0 6 (m.1 x0 4)) x0 7 ((dc_wi m x0 6 (m.1 x0 4)).1 (x0 + 1) (Int32.toNatClampNeg ((dc_wi m x0 6 (m.1 x0 4)).1 x0 4)))).1 x0 4) + (1 : Int32))) x0 5 (3 : Int32))))) rfl (fun _ => rfl) (kR _)
        · refine dw_g rfl ?_
          refine dg_s (pc' := 211) [.ref x0] rfl (fun _ => rfl) rfl ?_
          refine dg_s (pc' := 214) [.int ((dc_wi (dc_wi (dc_wi m x0 6 (m.1 x0 4)) x0 7 ((dc_wi m x0 6 (m.1 x0 4)).1 (x0 + 1) (Int32.toNatClampNeg ((dc_wi m x0 6 (m.1 x0 4)).1 x0 4)))) x0 4 (((dc_wi (dc_wi m x0 6 (m.1 x0 4)) x0 7 ((dc_wi m x0 6 (m.1 x0 4)).1 (x0 + 1) (Int32.toNatClampNeg ((dc_wi m x0 6 (m.1 x0 4)).1 x0 4)))).1 x0 4) + (1 : Int32))).1 x0 7)] rfl (fun _ => rfl) rfl ?_
          refine dg_s (pc' := 216) [.int (45 : Int32), .int ((dc_wi (dc_wi (dc_wi m x0 6 (m.1 x0 4)) x0 7 ((dc_wi m x0 6 (m.1 x0 4)).1 (x0 + 1) (Int32.toNatClampNeg ((dc_wi m x0 6 (m.1 x0 4)).1 x0 4)))) x0 4 (((dc_wi (dc_wi m x0 6 (m.1 x0 4)) x0 7 ((dc_wi m x0 6 (m.1 x0 4)).1 (x0 + 1) (Int32.toNatClampNeg ((dc_wi m x0 6 (m.1 x0 4)).1 x0 4)))).1 x0 4) + (1 : Int32))).1 x0 7)] rfl (fun _ => rfl) rfl ?_
          refine dw_if (fun t => Φ t) ((Int32.toInt ((dc_wi (dc_wi (dc_wi m x0 6 (m.1 x0 4)) x0 7 ((dc_wi m x0 6 (m.1 x0 4)).1 (x0 + 1) (Int32.toNatClampNeg ((dc_wi m x0 6 (m.1 x0 4)).1 x0 4)))) x0 4 (((dc_wi (dc_wi m x0 6 (m.1 x0 4)) x0 7 ((dc_wi m x0 6 (m.1 x0 4)).1 (x0 + 1) (Int32.toNatClampNeg ((dc_wi m x0 6 (m.1 x0 4)).1 x0 4)))).1 x0 4) + (1 : Int32))).1 x0 7)) = 45) [] 246 219 rfl (fun _ => rfl) (fun c4 => ?_) (fun c4 => ?_)
          · refine dw_g rfl ?_
            refine dg_s (pc' := 247) [.ref x0] rfl (fun _ => rfl) rfl ?_
            refine dg_s (pc' := 248) [.int (3 : Int32), .ref x0] rfl (fun _ => rfl) rfl ?_
            refine dg_m (pc' := 251) (dc_wi (dc_wi (dc_wi (dc_wi m x0 6 (m.1 x0 4)) x0 7 ((dc_wi m x0 6 (m.1 x0 4)).1 (x0 + 1) (Int32.toNatClampNeg ((dc_wi m x0 6 (m.1 x0 4)).1 x0 4)))) x0 4 (((dc_wi (dc_wi m x0 6 (m.1 x0 4)) x0 7 ((dc_wi m x0 6 (m.1 x0 4)).1 (x0 + 1) (Int32.toNatClampNeg ((dc_wi m x0 6 (m.1 x0 4)).1 x0 4)))).1 x0 4) + (1 : Int32))) x0 5 (3 : Int32)) [] rfl (fun _ => rfl) rfl ?_
            refine dg_s (pc' := 263) [] rfl (fun _ => rfl) rfl ?_
            exact dw_r (some (.inl (none, (dc_wi (dc_wi (dc_wi (dc_wi m x0 6 (m.1 x0 4)) x0 7 ((dc_wi m x0 6 (m.1 x0 4)).1 (x0 + 1) (Int32.toNatClampNeg ((dc_wi m x0 6 (m.1 x0 4)).1 x0 4)))) x0 4 (((dc_wi (dc_wi m x0 6 (m.1 x0 4)) x0 7 ((dc_wi m x0 6 (m.1 x0 4)).1 (x0 + 1) (Int32.toNatClampNeg ((dc_wi m x0 6 (m.1 x0 4)).1 x0 4)))).1 x0 4) + (1 : Int32))) x0 5 (3 : Int32))))) rfl (fun _ => rfl) (kR _)
          · refine dw_g rfl ?_
            refine dg_s (pc' := 220) [.ref x0] rfl (fun _ => rfl) rfl ?_
            refine dg_s (pc' := 223) [.int ((dc_wi (dc_wi (dc_wi m x0 6 (m.1 x0 4)) x0 7 ((dc_wi m x0 6 (m.1 x0 4)).1 (x0 + 1) (Int32.toNatClampNeg ((dc_wi m x0 6 (m.1 x0 4)).1 x0 4)))) x0 4 (((dc_wi (dc_wi m x0 6 (m.1 x0 4)) x0 7 ((dc_wi m x0 6 (m.1 x0 4)).1 (x0 + 1) (Int32.toNatClampNeg ((dc_wi m x0 6 (m.1 x0 4)).1 x0 4)))).1 x0 4) + (1 : Int32))).1 x0 7)] rfl (fun _ => rfl) rfl ?_
            refine dg_s (pc' := 225) [.int (47 : Int32), .int ((dc_wi (dc_wi (dc_wi m x0 6 (m.1 x0 4)) x0 7 ((dc_wi m x0 6 (m.1 x0 4)).1 (x0 + 1) (Int32.toNatClampNeg ((dc_wi m x0 6 (m.1 x0 4)).1 x0 4)))) x0 4 (((dc_wi (dc_wi m x0 6 (m.1 x0 4)) x0 7 ((dc_wi m x0 6 (m.1 x0 4)).1 (x0 + 1) (Int32.toNatClampNeg ((dc_wi m x0 6 (m.1 x0 4)).1 x0 4)))).1 x0 4) + (1 : Int32))).1 x0 7)] rfl (fun _ => rfl) rfl ?_
            refine dw_if (fun t => Φ t) ((Int32.toInt ((dc_wi (dc_wi (dc_wi m x0 6 (m.1 x0 4)) x0 7 ((dc_wi m x0 6 (m.1 x0 4)).1 (x0 + 1) (Int32.toNatClampNeg ((dc_wi m x0 6 (m.1 x0 4)).1 x0 4)))) x0 4 (((dc_wi (dc_wi m x0 6 (m.1 x0 4)) x0 7 ((dc_wi m x0 6 (m.1 x0 4)).1 (x0 + 1) (Int32.toNatClampNeg ((dc_wi m x0 6 (m.1 x0 4)).1 x0 4)))).1 x0 4) + (1 : Int32))).1 x0 7)) = 47) [] 246 228 rfl (fun _ => rfl) (fun c5 => ?_) (fun c5 => ?_)
            · refine dw_g rfl ?_
              refine dg_s (pc' := 247) [.ref x0] rfl (fun _ => rfl) rfl ?_
              refine dg_s (pc' := 248) [.int (3 : Int32), .ref x0] rfl (fun _ => rfl) rfl ?_
              refine dg_m (pc' := 251) (dc_wi (dc_wi (dc_wi (dc_wi m x0 6 (m.1 x0 4)) x0 7 ((dc_wi m x0 6 (m.1 x0 4)).1 (x0 + 1) (Int32.toNatClampNeg ((dc_wi m x0 6 (m.1 x0 4)).1 x0 4)))) x0 4 (((dc_wi (dc_wi m x0 6 (m.1 x0 4)) x0 7 ((dc_wi m x0 6 (m.1 x0 4)).1 (x0 + 1) (Int32.toNatClampNeg ((dc_wi m x0 6 (m.1 x0 4)).1 x0 4)))).1 x0 4) + (1 : Int32))) x0 5 (3 : Int32)) [] rfl (fun _ => rfl) rfl ?_
              refine dg_s (pc' := 263) [] rfl (fun _ => rfl) rfl ?_
              exact dw_r (some (.inl (none, (dc_wi (dc_wi (dc_wi (dc_wi m x0 6 (m.1 x0 4)) x0 7 ((dc_wi m x0 6 (m.1 x0 4)).1 (x0 + 1) (Int32.toNatClampNeg ((dc_wi m x0 6 (m.1 x0 4)).1 x0 4)))) x0 4 (((dc_wi (dc_wi m x0 6 (m.1 x0 4)) x0 7 ((dc_wi m x0 6 (m.1 x0 4)).1 (x0 + 1) (Int32.toNatClampNeg ((dc_wi m x0 6 (m.1 x0 4)).1 x0 4)))).1 x0 4) + (1 : Int32))) x0 5 (3 : Int32))))) rfl (fun _ => rfl) (kR _)
            · refine dw_g rfl ?_
              refine dg_s (pc' := 229) [.ref x0] rfl (fun _ => rfl) rfl ?_
              refine dg_s (pc' := 232) [.int ((dc_wi (dc_wi (dc_wi m x0 6 (m.1 x0 4)) x0 7 ((dc_wi m x0 6 (m.1 x0 4)).1 (x0 + 1) (Int32.toNatClampNeg ((dc_wi m x0 6 (m.1 x0 4)).1 x0 4)))) x0 4 (((dc_wi (dc_wi m x0 6 (m.1 x0 4)) x0 7 ((dc_wi m x0 6 (m.1 x0 4)).1 (x0 + 1) (Int32.toNatClampNeg ((dc_wi m x0 6 (m.1 x0 4)).1 x0 4)))).1 x0 4) + (1 : Int32))).1 x0 7)] rfl (fun _ => rfl) rfl ?_
              refine dg_s (pc' := 234) [.int (62 : Int32), .int ((dc_wi (dc_wi (dc_wi m x0 6 (m.1 x0 4)) x0 7 ((dc_wi m x0 6 (m.1 x0 4)).1 (x0 + 1) (Int32.toNatClampNeg ((dc_wi m x0 6 (m.1 x0 4)).1 x0 4)))) x0 4 (((dc_wi (dc_wi m x0 6 (m.1 x0 4)) x0 7 ((dc_wi m x0 6 (m.1 x0 4)).1 (x0 + 1) (Int32.toNatClampNeg ((dc_wi m x0 6 (m.1 x0 4)).1 x0 4)))).1 x0 4) + (1 : Int32))).1 x0 7)] rfl (fun _ => rfl) rfl ?_
              refine dw_if (fun t => Φ t) ((Int32.toInt ((dc_wi (dc_wi (dc_wi m x0 6 (m.1 x0 4)) x0 7 ((dc_wi m x0 6 (m.1 x0 4)).1 (x0 + 1) (Int32.toNatClampNeg ((dc_wi m x0 6 (m.1 x0 4)).1 x0 4)))) x0 4 (((dc_wi (dc_wi m x0 6 (m.1 x0 4)) x0 7 ((dc_wi m x0 6 (m.1 x0 4)).1 (x0 + 1) (Int32.toNatClampNeg ((dc_wi m x0 6 (m.1 x0 4)).1 x0 4)))).1 x0 4) + (1 : Int32))).1 x0 7)) = 62) [] 246 237 rfl (fun _ => rfl) (fun c6 => ?_) (fun c6 => ?_)
              · refine dw_g rfl ?_
                refine dg_s (pc' := 247) [.ref x0] rfl (fun _ => rfl) rfl ?_
                refine dg_s (pc' := 248) [.int (3 : Int32), .ref x0] rfl (fun _ => rfl) rfl ?_
                refine dg_m (pc' := 251) (dc_wi (dc_wi (dc_wi (dc_wi m x0 6 (m.1 x0 4)) x0 7 ((dc_wi m x0 6 (m.1 x0 4)).1 (x0 + 1) (Int32.toNatClampNeg ((dc_wi m x0 6 (m.1 x0 4)).1 x0 4)))) x0 4 (((dc_wi (dc_wi m x0 6 (m.1 x0 4)) x0 7 ((dc_wi m x0 6 (m.1 x0 4)).1 (x0 + 1) (Int32.toNatClampNeg ((dc_wi m x0 6 (m.1 x0 4)).1 x0 4)))).1 x0 4) + (1 : Int32))) x0 5 (3 : Int32)) [] rfl (fun _ => rfl) rfl ?_
                refine dg_s (pc' := 263) [] rfl (fun _ => rfl) rfl ?_
                exact dw_r (some (.inl (none, (dc_wi (dc_wi (dc_wi (dc_wi m x0 6 (m.1 x0 4)) x0 7 ((dc_wi m x0 6 (m.1 x0 4)).1 (x0 + 1) (Int32.toNatClampNeg ((dc_wi m x0 6 (m.1 x0 4)).1 x0 4)))) x0 4 (((dc_wi (dc_wi m x0 6 (m.1 x0 4)) x0 7 ((dc_wi m x0 6 (m.1 x0 4)).1 (x0 + 1) (Int32.toNatClampNeg ((dc_wi m x0 6 (m.1 x0 4)).1 x0 4)))).1 x0 4) + (1 : Int32))) x0 5 (3 : Int32))))) rfl (fun _ => rfl) (kR _)
              · refine dw_g rfl ?_
                refine dg_s (pc' := 238) [.ref x0] rfl (fun _ => rfl) rfl ?_
                refine dg_s (pc' := 241) [.int ((dc_wi (dc_wi (dc_wi m x0 6 (m.1 x0 4)) x0 7 ((dc_wi m x0 6 (m.1 x0 4)).1 (x0 + 1) (Int32.toNatClampNeg ((dc_wi m x0 6 (m.1 x0 4)).1 x0 4)))) x0 4 (((dc_wi (dc_wi m x0 6 (m.1 x0 4)) x0 7 ((dc_wi m x0 6 (m.1 x0 4)).1 (x0 + 1) (Int32.toNatClampNeg ((dc_wi m x0 6 (m.1 x0 4)).1 x0 4)))).1 x0 4) + (1 : Int32))).1 x0 7)] rfl (fun _ => rfl) rfl ?_
                refine dg_s (pc' := 243) [.int (59 : Int32), .int ((dc_wi (dc_wi (dc_wi m x0 6 (m.1 x0 4)) x0 7 ((dc_wi m x0 6 (m.1 x0 4)).1 (x0 + 1) (Int32.toNatClampNeg ((dc_wi m x0 6 (m.1 x0 4)).1 x0 4)))) x0 4 (((dc_wi (dc_wi m x0 6 (m.1 x0 4)) x0 7 ((dc_wi m x0 6 (m.1 x0 4)).1 (x0 + 1) (Int32.toNatClampNeg ((dc_wi m x0 6 (m.1 x0 4)).1 x0 4)))).1 x0 4) + (1 : Int32))).1 x0 7)] rfl (fun _ => rfl) rfl ?_
                refine dw_if (fun t => Φ t) (¬ (Int32.toInt ((dc_wi (dc_wi (dc_wi m x0 6 (m.1 x0 4)) x0 7 ((dc_wi m x0 6 (m.1 x0 4)).1 (x0 + 1) (Int32.toNatClampNeg ((dc_wi m x0 6 (m.1 x0 4)).1 x0 4)))) x0 4 (((dc_wi (dc_wi m x0 6 (m.1 x0 4)) x0 7 ((dc_wi m x0 6 (m.1 x0 4)).1 (x0 + 1) (Int32.toNatClampNeg ((dc_wi m x0 6 (m.1 x0 4)).1 x0 4)))).1 x0 4) + (1 : Int32))).1 x0 7)) = 59) [] 254 246 rfl (fun _ => rfl) (fun c7 => ?_) (fun c7 => ?_)
                · refine dw_g rfl ?_
                  refine dg_s (pc' := 255) [.ref x0] rfl (fun _ => rfl) rfl ?_
                  refine dg_s (pc' := 256) [.int (1 : Int32), .ref x0] rfl (fun _ => rfl) rfl ?_
                  refine dg_s (pc' := 257) [.ref x0, .int (1 : Int32), .ref x0] rfl (fun _ => rfl) rfl ?_
                  refine dg_s (pc' := 260) [.int ((dc_wi (dc_wi (dc_wi m x0 6 (m.1 x0 4)) x0 7 ((dc_wi m x0 6 (m.1 x0 4)).1 (x0 + 1) (Int32.toNatClampNeg ((dc_wi m x0 6 (m.1 x0 4)).1 x0 4)))) x0 4 (((dc_wi (dc_wi m x0 6 (m.1 x0 4)) x0 7 ((dc_wi m x0 6 (m.1 x0 4)).1 (x0 + 1) (Int32.toNatClampNeg ((dc_wi m x0 6 (m.1 x0 4)).1 x0 4)))).1 x0 4) + (1 : Int32))).1 x0 6), .int (1 : Int32), .ref x0] rfl (fun _ => rfl) rfl ?_
                  refine dw_l (fun t => Φ t) (pc' := 263) (fun q1 => []) (fun q1 => q1) rfl (fun _ => rfl) (fun q1 => ?_)
                  refine dw_g rfl ?_
                  exact dw_r (some (.inl (none, q1))) rfl (fun _ => rfl) (kR _)
                · refine dw_g rfl ?_
                  refine dg_s (pc' := 247) [.ref x0] rfl (fun _ => rfl) rfl ?_
                  refine dg_s (pc' := 248) [.int (3 : Int32), .ref x0] rfl (fun _ => rfl) rfl ?_
                  refine dg_m (pc' := 251) (dc_wi (dc_wi (dc_wi (dc_wi m x0 6 (m.1 x0 4)) x0 7 ((dc_wi m x0 6 (m.1 x0 4)).1 (x0 + 1) (Int32.toNatClampNeg ((dc_wi m x0 6 (m.1 x0 4)).1 x0 4)))) x0 4 (((dc_wi (dc_wi m x0 6 (m.1 x0 4)) x0 7 ((dc_wi m x0 6 (m.1 x0 4)).1 (x0 + 1) (Int32.toNatClampNeg ((dc_wi m x0 6 (m.1 x0 4)).1 x0 4)))).1 x0 4) + (1 : Int32))) x0 5 (3 : Int32)) [] rfl (fun _ => rfl) rfl ?_
                  refine dg_s (pc' := 263) [] rfl (fun _ => rfl) rfl ?_
                  exact dw_r (some (.inl (none, (dc_wi (dc_wi (dc_wi (dc_wi m x0 6 (m.1 x0 4)) x0 7 ((dc_wi m x0 6 (m.1 x0 4)).1 (x0 + 1) (Int32.toNatClampNeg ((dc_wi m x0 6 (m.1 x0 4)).1 x0 4)))) x0 4 (((dc_wi (dc_wi m x0 6 (m.1 x0 4)) x0 7 ((dc_wi m x0 6 (m.1 x0 4)).1 (x0 + 1) (Int32.toNatClampNeg ((dc_wi m x0 6 (m.1 x0 4)).1 x0 4)))).1 x0 4) + (1 : Int32))) x0 5 (3 : Int32))))) rfl (fun _ => rfl) (kR _)
      · refine dw_g rfl ?_
        refine dg_s (pc' := 159) [.ref x0] rfl (fun _ => rfl) rfl ?_
        refine dg_s (pc' := 160) [.int (2 : Int32), .ref x0] rfl (fun _ => rfl) rfl ?_
        refine dg_m (pc' := 163) (dc_wi (dc_wi (dc_wi (dc_wi m x0 6 (m.1 x0 4)) x0 7 ((dc_wi m x0 6 (m.1 x0 4)).1 (x0 + 1) (Int32.toNatClampNeg ((dc_wi m x0 6 (m.1 x0 4)).1 x0 4)))) x0 4 (((dc_wi (dc_wi m x0 6 (m.1 x0 4)) x0 7 ((dc_wi m x0 6 (m.1 x0 4)).1 (x0 + 1) (Int32.toNatClampNeg ((dc_wi m x0 6 (m.1 x0 4)).1 x0 4)))).1 x0 4) + (1 : Int32))) x0 5 (2 : Int32)) [] rfl (fun _ => rfl) rfl ?_
        refine dg_s (pc' := 164) [.ref x0] rfl (fun _ => rfl) rfl ?_
        refine dg_s (pc' := 167) [.int ((dc_wi (dc_wi (dc_wi (dc_wi m x0 6 (m.1 x0 4)) x0 7 ((dc_wi m x0 6 (m.1 x0 4)).1 (x0 + 1) (Int32.toNatClampNeg ((dc_wi m x0 6 (m.1 x0 4)).1 x0 4)))) x0 4 (((dc_wi (dc_wi m x0 6 (m.1 x0 4)) x0 7 ((dc_wi m x0 6 (m.1 x0 4)).1 (x0 + 1) (Int32.toNatClampNeg ((dc_wi m x0 6 (m.1 x0 4)).1 x0 4)))).1 x0 4) + (1 : Int32))) x0 5 (2 : Int32)).1 x0 4)] rfl (fun _ => rfl) rfl ?_
        refine dg_s (pc' := 168) [.ref x0, .int ((dc_wi (dc_wi (dc_wi (dc_wi m x0 6 (m.1 x0 4)) x0 7 ((dc_wi m x0 6 (m.1 x0 4)).1 (x0 + 1) (Int32.toNatClampNeg ((dc_wi m x0 6 (m.1 x0 4)).1 x0 4)))) x0 4 (((dc_wi (dc_wi m x0 6 (m.1 x0 4)) x0 7 ((dc_wi m x0 6 (m.1 x0 4)).1 (x0 + 1) (Int32.toNatClampNeg ((dc_wi m x0 6 (m.1 x0 4)).1 x0 4)))).1 x0 4) + (1 : Int32))) x0 5 (2 : Int32)).1 x0 4)] rfl (fun _ => rfl) rfl ?_
        refine dg_s (pc' := 171) [.int ((dc_wi (dc_wi (dc_wi (dc_wi m x0 6 (m.1 x0 4)) x0 7 ((dc_wi m x0 6 (m.1 x0 4)).1 (x0 + 1) (Int32.toNatClampNeg ((dc_wi m x0 6 (m.1 x0 4)).1 x0 4)))) x0 4 (((dc_wi (dc_wi m x0 6 (m.1 x0 4)) x0 7 ((dc_wi m x0 6 (m.1 x0 4)).1 (x0 + 1) (Int32.toNatClampNeg ((dc_wi m x0 6 (m.1 x0 4)).1 x0 4)))).1 x0 4) + (1 : Int32))) x0 5 (2 : Int32)).1 x0 1), .int ((dc_wi (dc_wi (dc_wi (dc_wi m x0 6 (m.1 x0 4)) x0 7 ((dc_wi m x0 6 (m.1 x0 4)).1 (x0 + 1) (Int32.toNatClampNeg ((dc_wi m x0 6 (m.1 x0 4)).1 x0 4)))) x0 4 (((dc_wi (dc_wi m x0 6 (m.1 x0 4)) x0 7 ((dc_wi m x0 6 (m.1 x0 4)).1 (x0 + 1) (Int32.toNatClampNeg ((dc_wi m x0 6 (m.1 x0 4)).1 x0 4)))).1 x0 4) + (1 : Int32))) x0 5 (2 : Int32)).1 x0 4)] rfl (fun _ => rfl) rfl ?_
        refine dw_if (fun t => Φ t) ((Int32.toInt ((dc_wi (dc_wi (dc_wi (dc_wi m x0 6 (m.1 x0 4)) x0 7 ((dc_wi m x0 6 (m.1 x0 4)).1 (x0 + 1) (Int32.toNatClampNeg ((dc_wi m x0 6 (m.1 x0 4)).1 x0 4)))) x0 4 (((dc_wi (dc_wi m x0 6 (m.1 x0 4)) x0 7 ((dc_wi m x0 6 (m.1 x0 4)).1 (x0 + 1) (Int32.toNatClampNeg ((dc_wi m x0 6 (m.1 x0 4)).1 x0 4)))).1 x0 4) + (1 : Int32))) x0 5 (2 : Int32)).1 x0 1)) ≤ (Int32.toInt ((dc_wi (dc_wi (dc_wi (dc_wi m x0 6 (m.1 x0 4)) x0 7 ((dc_wi m x0 6 (m.1 x0 4)).1 (x0 + 1) (Int32.toNatClampNeg ((dc_wi m x0 6 (m.1 x0 4)).1 x0 4)))) x0 4 (((dc_wi (dc_wi m x0 6 (m.1 x0 4)) x0 7 ((dc_wi m x0 6 (m.1 x0 4)).1 (x0 + 1) (Int32.toNatClampNeg ((dc_wi m x0 6 (m.1 x0 4)).1 x0 4)))).1 x0 4) + (1 : Int32))) x0 5 (2 : Int32)).1 x0 4))) [] 263 174 rfl (fun _ => rfl) (fun c3 => ?_) (fun c3 => ?_)
        · refine dw_g rfl ?_
          exact dw_r (some (.inl (none, (dc_wi (dc_wi (dc_wi (dc_wi m x0 6 (m.1 x0 4)) x0 7 ((dc_wi m x0 6 (m.1 x0 4)).1 (x0 + 1) (Int32.toNatClampNeg ((dc_wi m x0 6 (m.1 x0 4)).1 x0 4)))) x0 4 (((dc_wi (dc_wi m x0 6 (m.1 x0 4)) x0 7 ((dc_wi m x0 6 (m.1 x0 4)).1 (x0 + 1) (Int32.toNatClampNeg ((dc_wi m x0 6 (m.1 x0 4)).1 x0 4)))).1 x0 4) + (1 : Int32))) x0 5 (2 : Int32))))) rfl (fun _ => rfl) (kR _)
        · refine dw_g rfl ?_
          refine dg_s (pc' := 175) [.ref x0] rfl (fun _ => rfl) rfl ?_
          refine dg_s (pc' := 178) [.ref (x0 + 1)] rfl (fun _ => rfl) rfl ?_
          refine dg_s (pc' := 179) [.ref x0, .ref (x0 + 1)] rfl (fun _ => rfl) rfl ?_
          refine dg_s (pc' := 182) [.int ((dc_wi (dc_wi (dc_wi (dc_wi m x0 6 (m.1 x0 4)) x0 7 ((dc_wi m x0 6 (m.1 x0 4)).1 (x0 + 1) (Int32.toNatClampNeg ((dc_wi m x0 6 (m.1 x0 4)).1 x0 4)))) x0 4 (((dc_wi (dc_wi m x0 6 (m.1 x0 4)) x0 7 ((dc_wi m x0 6 (m.1 x0 4)).1 (x0 + 1) (Int32.toNatClampNeg ((dc_wi m x0 6 (m.1 x0 4)).1 x0 4)))).1 x0 4) + (1 : Int32))) x0 5 (2 : Int32)).1 x0 4), .ref (x0 + 1)] rfl (fun _ => rfl) rfl ?_
          refine dg_s (pc' := 183) [.int ((dc_wi (dc_wi (dc_wi (dc_wi m x0 6 (m.1 x0 4)) x0 7 ((dc_wi m x0 6 (m.1 x0 4)).1 (x0 + 1) (Int32.toNatClampNeg ((dc_wi m x0 6 (m.1 x0 4)).1 x0 4)))) x0 4 (((dc_wi (dc_wi m x0 6 (m.1 x0 4)) x0 7 ((dc_wi m x0 6 (m.1 x0 4)).1 (x0 + 1) (Int32.toNatClampNeg ((dc_wi m x0 6 (m.1 x0 4)).1 x0 4)))).1 x0 4) + (1 : Int32))) x0 5 (2 : Int32)).1 (x0 + 1) (Int32.toNatClampNeg ((dc_wi (dc_wi (dc_wi (dc_wi m x0 6 (m.1 x0 4)) x0 7 ((dc_wi m x0 6 (m.1 x0 4)).1 (x0 + 1) (Int32.toNatClampNeg ((dc_wi m x0 6 (m.1 x0 4)).1 x0 4)))) x0 4 (((dc_wi (dc_wi m x0 6 (m.1 x0 4)) x0 7 ((dc_wi m x0 6 (m.1 x0 4)).1 (x0 + 1) (Int32.toNatClampNeg ((dc_wi m x0 6 (m.1 x0 4)).1 x0 4)))).1 x0 4) + (1 : Int32))) x0 5 (2 : Int32)).1 x0 4)))] rfl (fun _ => rfl) rfl ?_
          refine dg_s (pc' := 186) [.int (d_X4_isFigure ((dc_wi (dc_wi (dc_wi (dc_wi m x0 6 (m.1 x0 4)) x0 7 ((dc_wi m x0 6 (m.1 x0 4)).1 (x0 + 1) (Int32.toNatClampNeg ((dc_wi m x0 6 (m.1 x0 4)).1 x0 4)))) x0 4 (((dc_wi (dc_wi m x0 6 (m.1 x0 4)) x0 7 ((dc_wi m x0 6 (m.1 x0 4)).1 (x0 + 1) (Int32.toNatClampNeg ((dc_wi m x0 6 (m.1 x0 4)).1 x0 4)))).1 x0 4) + (1 : Int32))) x0 5 (2 : Int32)).1 (x0 + 1) (Int32.toNatClampNeg ((dc_wi (dc_wi (dc_wi (dc_wi m x0 6 (m.1 x0 4)) x0 7 ((dc_wi m x0 6 (m.1 x0 4)).1 (x0 + 1) (Int32.toNatClampNeg ((dc_wi m x0 6 (m.1 x0 4)).1 x0 4)))) x0 4 (((dc_wi (dc_wi m x0 6 (m.1 x0 4)) x0 7 ((dc_wi m x0 6 (m.1 x0 4)).1 (x0 + 1) (Int32.toNatClampNeg ((dc_wi m x0 6 (m.1 x0 4)).1 x0 4)))).1 x0 4) + (1 : Int32))) x0 5 (2 : Int32)).1 x0 4))) (dc_wi (dc_wi (dc_wi (dc_wi m x0 6 (m.1 x0 4)) x0 7 ((dc_wi m x0 6 (m.1 x0 4)).1 (x0 + 1) (Int32.toNatClampNeg ((dc_wi m x0 6 (m.1 x0 4)).1 x0 4)))) x0 4 (((dc_wi (dc_wi m x0 6 (m.1 x0 4)) x0 7 ((dc_wi m x0 6 (m.1 x0 4)).1 (x0 + 1) (Int32.toNatClampNeg ((dc_wi m x0 6 (m.1 x0 4)).1 x0 4)))).1 x0 4) + (1 : Int32))) x0 5 (2 : Int32)))] rfl (fun _ => rfl) rfl ?_
          refine dw_if (fun t => Φ t) ((Int32.toInt (d_X4_isFigure ((dc_wi (dc_wi (dc_wi (dc_wi m x0 6 (m.1 x0 4)) x0 7 ((dc_wi m x0 6 (m.1 x0 4)).1 (x0 + 1) (Int32.toNatClampNeg ((dc_wi m x0 6 (m.1 x0 4)).1 x0 4)))) x0 4 (((dc_wi (dc_wi m x0 6 (m.1 x0 4)) x0 7 ((dc_wi m x0 6 (m.1 x0 4)).1 (x0 + 1) (Int32.toNatClampNeg ((dc_wi m x0 6 (m.1 x0 4)).1 x0 4)))).1 x0 4) + (1 : Int32))) x0 5 (2 : Int32)).1 (x0 + 1) (Int32.toNatClampNeg ((dc_wi (dc_wi (dc_wi (dc_wi m x0 6 (m.1 x0 4)) x0 7 ((dc_wi m x0 6 (m.1 x0 4)).1 (x0 + 1) (Int32.toNatClampNeg ((dc_wi m x0 6 (m.1 x0 4)).1 x0 4)))) x0 4 (((dc_wi (dc_wi m x0 6 (m.1 x0 4)) x0 7 ((dc_wi m x0 6 (m.1 x0 4)).1 (x0 + 1) (Int32.toNatClampNeg ((dc_wi m x0 6 (m.1 x0 4)).1 x0 4)))).1 x0 4) + (1 : Int32))) x0 5 (2 : Int32)).1 x0 4))) (dc_wi (dc_wi (dc_wi (dc_wi m x0 6 (m.1 x0 4)) x0 7 ((dc_wi m x0 6 (m.1 x0 4)).1 (x0 + 1) (Int32.toNatClampNeg ((dc_wi m x0 6 (m.1 x0 4)).1 x0 4)))) x0 4 (((dc_wi (dc_wi m x0 6 (m.1 x0 4)) x0 7 ((dc_wi m x0 6 (m.1 x0 4)).1 (x0 + 1) (Int32.toNatClampNeg ((dc_wi m x0 6 (m.1 x0 4)).1 x0 4)))).1 x0 4) + (1 : Int32))) x0 5 (2 : Int32)))) = 0) [] 263 189 rfl (fun _ => rfl) (fun c4 => ?_) (fun c4 => ?_)
          · refine dw_g rfl ?_
            exact dw_r (some (.inl (none, (dc_wi (dc_wi (dc_wi (dc_wi m x0 6 (m.1 x0 4)) x0 7 ((dc_wi m x0 6 (m.1 x0 4)).1 (x0 + 1) (Int32.toNatClampNeg ((dc_wi m x0 6 (m.1 x0 4)).1 x0 4)))) x0 4 (((dc_wi (dc_wi m x0 6 (m.1 x0 4)) x0 7 ((dc_wi m x0 6 (m.1 x0 4)).1 (x0 + 1) (Int32.toNatClampNeg ((dc_wi m x0 6 (m.1 x0 4)).1 x0 4)))).1 x0 4) + (1 : Int32))) x0 5 (2 : Int32))))) rfl (fun _ => rfl) (kR _)
          · refine dw_g rfl ?_
            refine dg_s (pc' := 190) [.ref x0] rfl (fun _ => rfl) rfl ?_
            refine dg_s (pc' := 191) [.int (1 : Int32), .ref x0] rfl (fun _ => rfl) rfl ?_
            refine dg_s (pc' := 192) [.ref x0, .int (1 : Int32), .ref x0] rfl (fun _ => rfl) rfl ?_
            refine dg_s (pc' := 195) [.int ((dc_wi (dc_wi (dc_wi (dc_wi m x0 6 (m.1 x0 4)) x0 7 ((dc_wi m x0 6 (m.1 x0 4)).1 (x0 + 1) (Int32.toNatClampNeg ((dc_wi m x0 6 (m.1 x0 4)).1 x0 4)))) x0 4 (((dc_wi (dc_wi m x0 6 (m.1 x0 4)) x0 7 ((dc_wi m x0 6 (m.1 x0 4)).1 (x0 + 1) (Int32.toNatClampNeg ((dc_wi m x0 6 (m.1 x0 4)).1 x0 4)))).1 x0 4) + (1 : Int32))) x0 5 (2 : Int32)).1 x0 6), .int (1 : Int32), .ref x0] rfl (fun _ => rfl) rfl ?_
            refine dw_l (fun t => Φ t) (pc' := 198) (fun q2 => []) (fun q2 => q2) rfl (fun _ => rfl) (fun q2 => ?_)
            refine dw_g rfl ?_
            refine dg_s (pc' := 263) [] rfl (fun _ => rfl) rfl ?_
            exact dw_r (some (.inl (none, q2))) rfl (fun _ => rfl) (kR _)
    · refine dw_g rfl ?_
      refine dg_s (pc' := 105) [.ref x0] rfl (fun _ => rfl) rfl ?_
      refine dg_s (pc' := 106) [.int (1 : Int32), .ref x0] rfl (fun _ => rfl) rfl ?_
      refine dw_m (pc' := 109) (dc_wi (dc_wi (dc_wi (dc_wi m x0 6 (m.1 x0 4)) x0 7 ((dc_wi m x0 6 (m.1 x0 4)).1 (x0 + 1) (Int32.toNatClampNeg ((dc_wi m x0 6 (m.1 x0 4)).1 x0 4)))) x0 4 (((dc_wi (dc_wi m x0 6 (m.1 x0 4)) x0 7 ((dc_wi m x0 6 (m.1 x0 4)).1 (x0 + 1) (Int32.toNatClampNeg ((dc_wi m x0 6 (m.1 x0 4)).1 x0 4)))).1 x0 4) + (1 : Int32))) x0 5 (1 : Int32)) [] rfl (fun _ => rfl) ?_
      exact dw_j rfl (fun lv1 hv => k_X4_take_l109 (Φ := (fun t => Φ t)) x0 (fun _b => kR _b) N   (dc_wi (dc_wi (dc_wi (dc_wi m x0 6 (m.1 x0 4)) x0 7 ((dc_wi m x0 6 (m.1 x0 4)).1 (x0 + 1) (Int32.toNatClampNeg ((dc_wi m x0 6 (m.1 x0 4)).1 x0 4)))) x0 4 (((dc_wi (dc_wi m x0 6 (m.1 x0 4)) x0 7 ((dc_wi m x0 6 (m.1 x0 4)).1 (x0 + 1) (Int32.toNatClampNeg ((dc_wi m x0 6 (m.1 x0 4)).1 x0 4)))).1 x0 4) + (1 : Int32))) x0 5 (1 : Int32)) lv1 (hv.1 _ rfl))
  · refine dw_g rfl ?_
    refine dg_s (pc' := 66) [.ref x0] rfl (fun _ => rfl) rfl ?_
    refine dg_s (pc' := 67) [.int (0 : Int32), .ref x0] rfl (fun _ => rfl) rfl ?_
    refine dg_m (pc' := 70) (dc_wi (dc_wi m x0 6 (m.1 x0 4)) x0 5 (0 : Int32)) [] rfl (fun _ => rfl) rfl ?_
    exact dw_r (some (.inl (none, (dc_wi (dc_wi m x0 6 (m.1 x0 4)) x0 5 (0 : Int32))))) rfl (fun _ => rfl) (kR _)
noncomputable def d_X4_take_l8b (x0 : Nat)  (m : dc_M) : Option (dc_M ⊕ dc_M) :=
  (if (Int32.toInt (m.1 x0 1)) ≤ (Int32.toInt (m.1 x0 4)) then ((d_X4_take_b46 x0 m).map (fun z => Sum.inr (z))) else (if ¬ (Int32.toInt (m.1 (x0 + 1) (Int32.toNatClampNeg (m.1 x0 4)))) = 32 then ((d_X4_take_b46 x0 m).map (fun z => Sum.inr (z))) else some (Sum.inl (dc_wi m x0 4 ((m.1 x0 4) + (1 : Int32))))))
noncomputable def d_X4_take_l8s (x0 : Nat) : dc_M → Option (dc_M ⊕ dc_M) := fun s => d_X4_take_l8b x0 s
noncomputable def d_X4_take_l8 (x0 : Nat)  (m : dc_M) : Option dc_M := dc_lp (d_X4_take_l8s x0) m
set_option maxHeartbeats 8000000 in
theorem k_X4_take_l8 {u : Nat} {Φ : (Option dc_M) → Option Value → dc_M → Prop} (x0 : Nat) (kR : ∀  (m : dc_M), Φ (some (m)) (none) m) : ∀ (N : Nat), ∀  (m : dc_M) (lv : ab_L), ab_lk lv 0 = some (.ref x0) → dc_pv u N ab_M_X4_take 8 lv [] m (Φ (d_X4_take_l8 x0  m)) := by
  intro N
  induction N with
  | zero => intros; exact dc_pv_zero
  | succ N ih =>
    intro m lv f0
    refine dc_ok (C := C_X4_take) (S := S_X4_take) CO_X4_take 400 8 [(0, .ref x0)] lv [] m (dc_sub_cons f0 (dc_sub_nil)) ?_
    unfold d_X4_take_l8
    rw [dc_lp_eq]
    show (fun t x => dc_lf u N ab_M_X4_take (Φ (Option.bind t (dc_bk (d_X4_take_l8s x0)))) x) (d_X4_take_l8b x0  m) _
    dsimp only
    unfold d_X4_take_l8b
    refine dg_s (pc' := 9) [.ref x0] rfl (fun _ => rfl) rfl ?_
    refine dg_s (pc' := 12) [.int (m.1 x0 4)] rfl (fun _ => rfl) rfl ?_
    refine dg_s (pc' := 13) [.ref x0, .int (m.1 x0 4)] rfl (fun _ => rfl) rfl ?_
    refine dg_s (pc' := 16) [.int (m.1 x0 1), .int (m.1 x0 4)] rfl (fun _ => rfl) rfl ?_
    refine dw_if (fun t => Φ (Option.bind t (dc_bk (d_X4_take_l8s x0)))) ((Int32.toInt (m.1 x0 1)) ≤ (Int32.toInt (m.1 x0 4))) [] 46 19 rfl (fun _ => rfl) (fun c0 => ?_) (fun c0 => ?_)
    · exact dw_j rfl (fun lv1 hv => k_X4_take_b46 (Φ := (fun t => Φ (Option.bind (t.map (fun z => Sum.inr (z))) (dc_bk (d_X4_take_l8s x0))))) x0 m (fun _b => kR _b)  (hv.1 _ rfl))
    · refine dw_g rfl ?_
      refine dg_s (pc' := 20) [.ref x0] rfl (fun _ => rfl) rfl ?_
      refine dg_s (pc' := 23) [.ref (x0 + 1)] rfl (fun _ => rfl) rfl ?_
      refine dg_s (pc' := 24) [.ref x0, .ref (x0 + 1)] rfl (fun _ => rfl) rfl ?_
      refine dg_s (pc' := 27) [.int (m.1 x0 4), .ref (x0 + 1)] rfl (fun _ => rfl) rfl ?_
      refine dg_s (pc' := 28) [.int (m.1 (x0 + 1) (Int32.toNatClampNeg (m.1 x0 4)))] rfl (fun _ => rfl) rfl ?_
      refine dg_s (pc' := 30) [.int (32 : Int32), .int (m.1 (x0 + 1) (Int32.toNatClampNeg (m.1 x0 4)))] rfl (fun _ => rfl) rfl ?_
      refine dw_if (fun t => Φ (Option.bind t (dc_bk (d_X4_take_l8s x0)))) (¬ (Int32.toInt (m.1 (x0 + 1) (Int32.toNatClampNeg (m.1 x0 4)))) = 32) [] 46 33 rfl (fun _ => rfl) (fun c1 => ?_) (fun c1 => ?_)
      · exact dw_j rfl (fun lv1 hv => k_X4_take_b46 (Φ := (fun t => Φ (Option.bind (t.map (fun z => Sum.inr (z))) (dc_bk (d_X4_take_l8s x0))))) x0 m (fun _b => kR _b)  (hv.1 _ rfl))
      · refine dw_g rfl ?_
        refine dg_s (pc' := 34) [.ref x0] rfl (fun _ => rfl) rfl ?_
        refine dg_s (pc' := 35) [.ref x0, .ref x0] rfl (fun _ => rfl) rfl ?_
        refine dg_s (pc' := 38) [.int (m.1 x0 4), .ref x0] rfl (fun _ => rfl) rfl ?_
        refine dg_s (pc' := 39) [.int (1 : Int32), .int (m.1 x0 4), .ref x0] rfl (fun _ => rfl) rfl ?_
        refine dg_s (pc' := 40) [.int ((m.1 x0 4) + (1 : Int32)), .ref x0] rfl (fun _ => rfl) rfl ?_
        refine dg_m (pc' := 43) (dc_wi m x0 4 ((m.1 x0 4) + (1 : Int32))) [] rfl (fun _ => rfl) rfl ?_
        refine dw_s (pc' := 8) [] rfl (fun _ => rfl) ?_
        exact dw_j rfl (fun lv1 hv => ih (dc_wi m x0 4 ((m.1 x0 4) + (1 : Int32))) lv1 (hv.1 _ rfl))
noncomputable def d_X4_take (x0 : Nat) (m : dc_M) : Option dc_M :=
  (if (Int32.toInt (m.1 x0 2)) = 0 then (d_X4_take_l8 x0 m) else some (m))
set_option maxHeartbeats 8000000 in
theorem k_X4_take {u : Nat} {N : Nat} {Φ : (Option dc_M) → Option Value → dc_M → Prop} (x0 : Nat) (m : dc_M) (kR : ∀  (m : dc_M), Φ (some (m)) (none) m)  {lv : ab_L} (f0 : ab_lk lv 0 = some (.ref x0)) : dc_pv u N ab_M_X4_take 0 lv [] m (Φ (d_X4_take x0 m)) := by
  refine dc_pv.mono (dc_ok (C := C_X4_take) (S := S_X4_take) CO_X4_take 400 0 [(0, .ref x0)] lv [] m (dc_sub_cons f0 (dc_sub_nil)) ?_) (Nat.le_succ N)
  unfold d_X4_take
  refine dg_s (pc' := 1) [.ref x0] rfl (fun _ => rfl) rfl ?_
  refine dg_s (pc' := 4) [.int (m.1 x0 2)] rfl (fun _ => rfl) rfl ?_
  refine dw_if (fun t => Φ t) ((Int32.toInt (m.1 x0 2)) = 0) [] 8 7 rfl (fun _ => rfl) (fun c0 => ?_) (fun c0 => ?_)
  · exact dw_j rfl (fun lv1 hv => k_X4_take_l8 (Φ := (fun t => Φ t)) x0 (fun _b => kR _b) N   m lv1 (hv.1 _ rfl))
  · refine dw_g rfl ?_
    exact dw_r (some (.inl (none, m))) rfl (fun _ => rfl) (kR _)
noncomputable def H_X4_take : dc_H := fun As m k => match As with
  | [.ref x0] => (d_X4_take x0 m).bind (fun q => k (none) q)
  | _ => dc_kz
theorem H_X4_take_ok {u : Nat} : dc_cok u 55 H_X4_take := fun M' hG N As m k P hz hP => by
  obtain rfl : ab_M_X4_take = M' := Option.some.inj hG
  unfold H_X4_take at hP
  split at hP
  · rename_i x0
    exact dc_pv.imp (k_X4_take (Φ := fun (t : Option dc_M) r m' => P (t.bind (fun q => k (none) q)) → P (k r m')) x0 m (fun _ h => h) rfl) (fun r m' h => h hP)
  · exact absurd hP hz
