/-! ===== methods as functions (written by a program) ===== -/
def C_X9_lowest : List (Nat × dc_H) := [(229, H_J6_bitCount_0f7a4)]
theorem CO_X9_lowest {u : Nat} : dc_CO u C_X9_lowest := dc_CO_cons H_J6_bitCount_0f7a4_ok (dc_CO_nil)
def S_X9_lowest : List (Nat × List Nat) := []
def d_X9_lowest (x0 : Int32) (m : dc_M) : Int32 :=
  (d_J6_bitCount_0f7a4 ((x0 &&& (-x0)) - (1 : Int32)) m)
set_option maxHeartbeats 8000000 in
theorem k_X9_lowest {u : Nat} {N : Nat} {Φ : Int32 → Option Value → dc_M → Prop} (x0 : Int32) (m : dc_M) (kR : ∀ (v : Int32), Φ (v) (some (.int v)) m)  {lv : ab_L} (f0 : ab_lk lv 0 = some (.int x0)) : dc_pv u N ab_M_X9_lowest 0 lv [] m (Φ (d_X9_lowest x0 m)) := by
  refine dc_pv.mono (dc_ok (C := C_X9_lowest) (S := S_X9_lowest) CO_X9_lowest 400 0 [(0, .int x0)] lv [] m (dc_sub_cons f0 (dc_sub_nil)) ?_) (Nat.le_succ N)
  unfold d_X9_lowest
  refine dg_s (pc' := 1) [.int x0] rfl (fun _ => rfl) rfl ?_
  refine dg_s (pc' := 2) [.int x0, .int x0] rfl (fun _ => rfl) rfl ?_
  refine dg_s (pc' := 3) [.int (-x0), .int x0] rfl (fun _ => rfl) rfl ?_
  refine dg_s (pc' := 4) [.int (x0 &&& (-x0))] rfl (fun _ => rfl) rfl ?_
  refine dg_s (pc' := 5) [.int (1 : Int32), .int (x0 &&& (-x0))] rfl (fun _ => rfl) rfl ?_
  refine dg_s (pc' := 6) [.int ((x0 &&& (-x0)) - (1 : Int32))] rfl (fun _ => rfl) rfl ?_
  refine dg_s (pc' := 9) [.int (d_J6_bitCount_0f7a4 ((x0 &&& (-x0)) - (1 : Int32)) m)] rfl (fun _ => rfl) rfl ?_
  exact dw_r (some (.inl (some (.int (d_J6_bitCount_0f7a4 ((x0 &&& (-x0)) - (1 : Int32)) m)), m))) rfl (fun _ => rfl) (kR _)
def H_X9_lowest : dc_H := fun As m k => match As with
  | [.int x0] => k (some (.int (d_X9_lowest x0 m))) m
  | _ => dc_kz
theorem H_X9_lowest_ok {u : Nat} : dc_cok u 144 H_X9_lowest := fun M' hG N As m k P hz hP => by
  obtain rfl : ab_M_X9_lowest = M' := Option.some.inj hG
  unfold H_X9_lowest at hP
  split at hP
  · rename_i x0
    exact dc_pv.imp (k_X9_lowest (Φ := fun (t : Int32) r m' => P (k (some (.int t)) m) → P (k r m')) x0 m (fun _  h => h) rfl) (fun r m' h => h hP)
  · exact absurd hP hz
def C_X5_findEnds : List (Nat × dc_H) := [(229, H_J6_bitCount_0f7a4), (144, H_X9_lowest)]
theorem CO_X5_findEnds {u : Nat} : dc_CO u C_X5_findEnds := dc_CO_cons H_J6_bitCount_0f7a4_ok (dc_CO_cons H_X9_lowest_ok (dc_CO_nil))
def S_X5_findEnds : List (Nat × List Nat) := [(2, [0, 1, 2])]
noncomputable def d_X5_findEnds_l2b (x0 : Nat) (x1 : Nat) (x2 : Int32) (m : dc_M) : Option ((Int32 × dc_M) ⊕ (Int32 × dc_M)) :=
  (if (Int32.toInt (m.1 x1 2)) ≤ (Int32.toInt x2) then some (Sum.inr (((1 : Int32), m))) else (if ¬ (Int32.toInt (d_J6_bitCount_0f7a4 (m.1 (x1 + 9) (Int32.toNatClampNeg x2)) m)) = 1 then some (Sum.inr (((0 : Int32), m))) else (if (Int32.toInt (d_J6_bitCount_0f7a4 (m.1 (x1 + 10) (Int32.toNatClampNeg x2)) m)) = 1 then some (Sum.inl ((x2 + (1 : Int32)), (dc_wi (dc_wi m (x0 + 1) (Int32.toNatClampNeg x2) (d_X9_lowest (m.1 (x1 + 9) (Int32.toNatClampNeg x2)) m)) (x0 + 2) (Int32.toNatClampNeg x2) (d_X9_lowest ((dc_wi m (x0 + 1) (Int32.toNatClampNeg x2) (d_X9_lowest (m.1 (x1 + 9) (Int32.toNatClampNeg x2)) m)).1 (x1 + 10) (Int32.toNatClampNeg x2)) (dc_wi m (x0 + 1) (Int32.toNatClampNeg x2) (d_X9_lowest (m.1 (x1 + 9) (Int32.toNatClampNeg x2)) m)))))) else some (Sum.inr (((0 : Int32), m))))))
noncomputable def d_X5_findEnds_l2s (x0 : Nat) (x1 : Nat) : (Int32 × dc_M) → Option ((Int32 × dc_M) ⊕ (Int32 × dc_M)) := fun s => d_X5_findEnds_l2b x0 x1 s.1 s.2
noncomputable def d_X5_findEnds_l2 (x0 : Nat) (x1 : Nat) (x2 : Int32) (m : dc_M) : Option (Int32 × dc_M) := dc_lp (d_X5_findEnds_l2s x0 x1) (x2, m)
set_option maxHeartbeats 8000000 in
theorem k_X5_findEnds_l2 {u : Nat} {Φ : (Option (Int32 × dc_M)) → Option Value → dc_M → Prop} (x0 : Nat) (x1 : Nat) (kR : ∀ (v : Int32) (m : dc_M), Φ (some ((v, m))) (some (.int v)) m) : ∀ (N : Nat), ∀ (x2 : Int32) (m : dc_M) (lv : ab_L), ab_lk lv 0 = some (.ref x0) → ab_lk lv 1 = some (.ref x1) → ab_lk lv 2 = some (.int x2) → dc_pv u N ab_M_X5_findEnds 2 lv [] m (Φ (d_X5_findEnds_l2 x0 x1 x2 m)) := by
  intro N
  induction N with
  | zero => intros; exact dc_pv_zero
  | succ N ih =>
    intro x2 m lv f0 f1 f2
    refine dc_ok (C := C_X5_findEnds) (S := S_X5_findEnds) CO_X5_findEnds 400 2 [(0, .ref x0), (1, .ref x1), (2, .int x2)] lv [] m (dc_sub_cons f0 (dc_sub_cons f1 (dc_sub_cons f2 (dc_sub_nil)))) ?_
    unfold d_X5_findEnds_l2
    rw [dc_lp_eq]
    show (fun t x => dc_lf u N ab_M_X5_findEnds (Φ (Option.bind t (dc_bk (d_X5_findEnds_l2s x0 x1)))) x) (d_X5_findEnds_l2b x0 x1 x2 m) _
    dsimp only
    unfold d_X5_findEnds_l2b
    refine dg_s (pc' := 3) [.int x2] rfl (fun _ => rfl) rfl ?_
    refine dg_s (pc' := 4) [.ref x1, .int x2] rfl (fun _ => rfl) rfl ?_
    refine dg_s (pc' := 7) [.int (m.1 x1 2), .int x2] rfl (fun _ => rfl) rfl ?_
    refine dw_if (fun t => Φ (Option.bind t (dc_bk (d_X5_findEnds_l2s x0 x1)))) ((Int32.toInt (m.1 x1 2)) ≤ (Int32.toInt x2)) [] 74 10 rfl (fun _ => rfl) (fun c0 => ?_) (fun c0 => ?_)
    · refine dw_g rfl ?_
      refine dg_s (pc' := 75) [.int (1 : Int32)] rfl (fun _ => rfl) rfl ?_
      exact dw_r (some (.inl (some (.int (1 : Int32)), m))) rfl (fun _ => rfl) (kR _ _)
    · refine dw_g rfl ?_
      refine dg_s (pc' := 11) [.ref x1] rfl (fun _ => rfl) rfl ?_
      refine dg_s (pc' := 14) [.ref (x1 + 9)] rfl (fun _ => rfl) rfl ?_
      refine dg_s (pc' := 15) [.int x2, .ref (x1 + 9)] rfl (fun _ => rfl) rfl ?_
      refine dg_s (pc' := 16) [.int (m.1 (x1 + 9) (Int32.toNatClampNeg x2))] rfl (fun _ => rfl) rfl ?_
      refine dg_s (pc' := 19) [.int (d_J6_bitCount_0f7a4 (m.1 (x1 + 9) (Int32.toNatClampNeg x2)) m)] rfl (fun _ => rfl) rfl ?_
      refine dg_s (pc' := 20) [.int (1 : Int32), .int (d_J6_bitCount_0f7a4 (m.1 (x1 + 9) (Int32.toNatClampNeg x2)) m)] rfl (fun _ => rfl) rfl ?_
      refine dw_if (fun t => Φ (Option.bind t (dc_bk (d_X5_findEnds_l2s x0 x1)))) (¬ (Int32.toInt (d_J6_bitCount_0f7a4 (m.1 (x1 + 9) (Int32.toNatClampNeg x2)) m)) = 1) [] 36 23 rfl (fun _ => rfl) (fun c1 => ?_) (fun c1 => ?_)
      · refine dw_g rfl ?_
        refine dg_s (pc' := 37) [.int (0 : Int32)] rfl (fun _ => rfl) rfl ?_
        exact dw_r (some (.inl (some (.int (0 : Int32)), m))) rfl (fun _ => rfl) (kR _ _)
      · refine dw_g rfl ?_
        refine dg_s (pc' := 24) [.ref x1] rfl (fun _ => rfl) rfl ?_
        refine dg_s (pc' := 27) [.ref (x1 + 10)] rfl (fun _ => rfl) rfl ?_
        refine dg_s (pc' := 28) [.int x2, .ref (x1 + 10)] rfl (fun _ => rfl) rfl ?_
        refine dg_s (pc' := 29) [.int (m.1 (x1 + 10) (Int32.toNatClampNeg x2))] rfl (fun _ => rfl) rfl ?_
        refine dg_s (pc' := 32) [.int (d_J6_bitCount_0f7a4 (m.1 (x1 + 10) (Int32.toNatClampNeg x2)) m)] rfl (fun _ => rfl) rfl ?_
        refine dg_s (pc' := 33) [.int (1 : Int32), .int (d_J6_bitCount_0f7a4 (m.1 (x1 + 10) (Int32.toNatClampNeg x2)) m)] rfl (fun _ => rfl) rfl ?_
        refine dw_if (fun t => Φ (Option.bind t (dc_bk (d_X5_findEnds_l2s x0 x1)))) ((Int32.toInt (d_J6_bitCount_0f7a4 (m.1 (x1 + 10) (Int32.toNatClampNeg x2)) m)) = 1) [] 38 36 rfl (fun _ => rfl) (fun c2 => ?_) (fun c2 => ?_)
        · refine dw_g rfl ?_
          refine dg_s (pc' := 39) [.ref x0] rfl (fun _ => rfl) rfl ?_
          refine dg_s (pc' := 42) [.ref (x0 + 1)] rfl (fun _ => rfl) rfl ?_
          refine dg_s (pc' := 43) [.int x2, .ref (x0 + 1)] rfl (fun _ => rfl) rfl ?_
          refine dg_s (pc' := 44) [.ref x1, .int x2, .ref (x0 + 1)] rfl (fun _ => rfl) rfl ?_
          refine dg_s (pc' := 47) [.ref (x1 + 9), .int x2, .ref (x0 + 1)] rfl (fun _ => rfl) rfl ?_
          refine dg_s (pc' := 48) [.int x2, .ref (x1 + 9), .int x2, .ref (x0 + 1)] rfl (fun _ => rfl) rfl ?_
          refine dg_s (pc' := 49) [.int (m.1 (x1 + 9) (Int32.toNatClampNeg x2)), .int x2, .ref (x0 + 1)] rfl (fun _ => rfl) rfl ?_
          refine dg_s (pc' := 52) [.int (d_X9_lowest (m.1 (x1 + 9) (Int32.toNatClampNeg x2)) m), .int x2, .ref (x0 + 1)] rfl (fun _ => rfl) rfl ?_
          refine dg_m (pc' := 53) (dc_wi m (x0 + 1) (Int32.toNatClampNeg x2) (d_X9_lowest (m.1 (x1 + 9) (Int32.toNatClampNeg x2)) m)) [] rfl (fun _ => rfl) rfl ?_
          refine dg_s (pc' := 54) [.ref x0] rfl (fun _ => rfl) rfl ?_
          refine dg_s (pc' := 57) [.ref (x0 + 2)] rfl (fun _ => rfl) rfl ?_
          refine dg_s (pc' := 58) [.int x2, .ref (x0 + 2)] rfl (fun _ => rfl) rfl ?_
          refine dg_s (pc' := 59) [.ref x1, .int x2, .ref (x0 + 2)] rfl (fun _ => rfl) rfl ?_
          refine dg_s (pc' := 62) [.ref (x1 + 10), .int x2, .ref (x0 + 2)] rfl (fun _ => rfl) rfl ?_
          refine dg_s (pc' := 63) [.int x2, .ref (x1 + 10), .int x2, .ref (x0 + 2)] rfl (fun _ => rfl) rfl ?_
          refine dg_s (pc' := 64) [.int ((dc_wi m (x0 + 1) (Int32.toNatClampNeg x2) (d_X9_lowest (m.1 (x1 + 9) (Int32.toNatClampNeg x2)) m)).1 (x1 + 10) (Int32.toNatClampNeg x2)), .int x2, .ref (x0 + 2)] rfl (fun _ => rfl) rfl ?_
          refine dg_s (pc' := 67) [.int (d_X9_lowest ((dc_wi m (x0 + 1) (Int32.toNatClampNeg x2) (d_X9_lowest (m.1 (x1 + 9) (Int32.toNatClampNeg x2)) m)).1 (x1 + 10) (Int32.toNatClampNeg x2)) (dc_wi m (x0 + 1) (Int32.toNatClampNeg x2) (d_X9_lowest (m.1 (x1 + 9) (Int32.toNatClampNeg x2)) m))), .int x2, .ref (x0 + 2)] rfl (fun _ => rfl) rfl ?_
          refine dg_m (pc' := 68) (dc_wi (dc_wi m (x0 + 1) (Int32.toNatClampNeg x2) (d_X9_lowest (m.1 (x1 + 9) (Int32.toNatClampNeg x2)) m)) (x0 + 2) (Int32.toNatClampNeg x2) (d_X9_lowest ((dc_wi m (x0 + 1) (Int32.toNatClampNeg x2) (d_X9_lowest (m.1 (x1 + 9) (Int32.toNatClampNeg x2)) m)).1 (x1 + 10) (Int32.toNatClampNeg x2)) (dc_wi m (x0 + 1) (Int32.toNatClampNeg x2) (d_X9_lowest (m.1 (x1 + 9) (Int32.toNatClampNeg x2)) m)))) [] rfl (fun _ => rfl) rfl ?_
          refine dg_L (pc' := 71) [(2, .int (x2 + (1 : Int32))), (0, .ref x0), (1, .ref x1)] [] rfl (fun _ => rfl) rfl ?_
          refine dw_s (pc' := 2) [] rfl (fun _ => rfl) ?_
          exact dw_j rfl (fun lv1 hv => ih (x2 + (1 : Int32)) (dc_wi (dc_wi m (x0 + 1) (Int32.toNatClampNeg x2) (d_X9_lowest (m.1 (x1 + 9) (Int32.toNatClampNeg x2)) m)) (x0 + 2) (Int32.toNatClampNeg x2) (d_X9_lowest ((dc_wi m (x0 + 1) (Int32.toNatClampNeg x2) (d_X9_lowest (m.1 (x1 + 9) (Int32.toNatClampNeg x2)) m)).1 (x1 + 10) (Int32.toNatClampNeg x2)) (dc_wi m (x0 + 1) (Int32.toNatClampNeg x2) (d_X9_lowest (m.1 (x1 + 9) (Int32.toNatClampNeg x2)) m)))) lv1 (hv.1 _ rfl) (hv.2.1 _ rfl) (hv.2.2.1 _ rfl))
        · refine dw_g rfl ?_
          refine dg_s (pc' := 37) [.int (0 : Int32)] rfl (fun _ => rfl) rfl ?_
          exact dw_r (some (.inl (some (.int (0 : Int32)), m))) rfl (fun _ => rfl) (kR _ _)
noncomputable def d_X5_findEnds (x0 : Nat) (x1 : Nat) (m : dc_M) : Option (Int32 × dc_M) :=
  (d_X5_findEnds_l2 x0 x1 (0 : Int32) m)
set_option maxHeartbeats 8000000 in
theorem k_X5_findEnds {u : Nat} {N : Nat} {Φ : (Option (Int32 × dc_M)) → Option Value → dc_M → Prop} (x0 : Nat) (x1 : Nat) (m : dc_M) (kR : ∀ (v : Int32) (m : dc_M), Φ (some ((v, m))) (some (.int v)) m)  {lv : ab_L} (f0 : ab_lk lv 0 = some (.ref x0)) (f1 : ab_lk lv 1 = some (.ref x1)) : dc_pv u N ab_M_X5_findEnds 0 lv [] m (Φ (d_X5_findEnds x0 x1 m)) := by
  refine dc_pv.mono (dc_ok (C := C_X5_findEnds) (S := S_X5_findEnds) CO_X5_findEnds 400 0 [(0, .ref x0), (1, .ref x1)] lv [] m (dc_sub_cons f0 (dc_sub_cons f1 (dc_sub_nil))) ?_) (Nat.le_succ N)
  unfold d_X5_findEnds
  refine dg_s (pc' := 1) [.int (0 : Int32)] rfl (fun _ => rfl) rfl ?_
  refine dw_L (pc' := 2) [(2, .int (0 : Int32)), (0, .ref x0), (1, .ref x1)] [] rfl (fun _ => rfl) ?_
  exact dw_j rfl (fun lv1 hv => k_X5_findEnds_l2 (Φ := (fun t => Φ t)) x0 x1 (fun _a _b => kR _a _b) N  (0 : Int32) m lv1 (hv.1 _ rfl) (hv.2.1 _ rfl) (hv.2.2.1 _ rfl))
noncomputable def H_X5_findEnds : dc_H := fun As m k => match As with
  | [.ref x0, .ref x1] => (d_X5_findEnds x0 x1 m).bind (fun q => k (some (.int q.1)) q.2)
  | _ => dc_kz
theorem H_X5_findEnds_ok {u : Nat} : dc_cok u 64 H_X5_findEnds := fun M' hG N As m k P hz hP => by
  obtain rfl : ab_M_X5_findEnds = M' := Option.some.inj hG
  unfold H_X5_findEnds at hP
  split at hP
  · rename_i x0 x1
    exact dc_pv.imp (k_X5_findEnds (Φ := fun (t : Option (Int32 × dc_M)) r m' => P (t.bind (fun q => k (some (.int q.1)) q.2)) → P (k r m')) x0 x1 m (fun _ _ h => h) rfl rfl) (fun r m' h => h hP)
  · exact absurd hP hz
def C_X5_waitsForNone : List (Nat × dc_H) := []
theorem CO_X5_waitsForNone {u : Nat} : dc_CO u C_X5_waitsForNone := dc_CO_nil
def S_X5_waitsForNone : List (Nat × List Nat) := [(18, [0, 1, 3, 4, 5])]
noncomputable def d_X5_waitsForNone_l18b (x0 : Nat) (x1 : Nat) (x3 : Int32) (x4 : Int32) (x5 : Int32) (m : dc_M) : Option (Int32 ⊕ Int32) :=
  (if (Int32.toInt (m.1 x1 2)) ≤ (Int32.toInt x5) then some (Sum.inr ((1 : Int32))) else (if (Int32.toInt ((x4 >>> (x5 &&& 31)) &&& (1 : Int32))) = 0 then some (Sum.inl (x5 + (1 : Int32))) else (if ¬ (Int32.toInt ((x3 >>> ((m.1 (x0 + 1) (Int32.toNatClampNeg x5)) &&& 31)) &&& (1 : Int32))) = 0 then some (Sum.inl (x5 + (1 : Int32))) else some (Sum.inr ((0 : Int32))))))
noncomputable def d_X5_waitsForNone_l18s (x0 : Nat) (x1 : Nat) (x3 : Int32) (x4 : Int32) (m : dc_M) : Int32 → Option (Int32 ⊕ Int32) := fun s => d_X5_waitsForNone_l18b x0 x1 x3 x4 s m
noncomputable def d_X5_waitsForNone_l18 (x0 : Nat) (x1 : Nat) (x3 : Int32) (x4 : Int32) (x5 : Int32) (m : dc_M) : Option Int32 := dc_lp (d_X5_waitsForNone_l18s x0 x1 x3 x4 m) x5
set_option maxHeartbeats 8000000 in
theorem k_X5_waitsForNone_l18 {u : Nat} {Φ : (Option Int32) → Option Value → dc_M → Prop} (x0 : Nat) (x1 : Nat) (x3 : Int32) (x4 : Int32) (m : dc_M) (kR : ∀ (v : Int32), Φ (some (v)) (some (.int v)) m) : ∀ (N : Nat), ∀ (x5 : Int32) (lv : ab_L), ab_lk lv 0 = some (.ref x0) → ab_lk lv 1 = some (.ref x1) → ab_lk lv 3 = some (.int x3) → ab_lk lv 4 = some (.int x4) → ab_lk lv 5 = some (.int x5) → dc_pv u N ab_M_X5_waitsForNone 18 lv [] m (Φ (d_X5_waitsForNone_l18 x0 x1 x3 x4 x5 m)) := by
  intro N
  induction N with
  | zero => intros; exact dc_pv_zero
  | succ N ih =>
    intro x5 lv f0 f1 f3 f4 f5
    refine dc_ok (C := C_X5_waitsForNone) (S := S_X5_waitsForNone) CO_X5_waitsForNone 400 18 [(0, .ref x0), (1, .ref x1), (3, .int x3), (4, .int x4), (5, .int x5)] lv [] m (dc_sub_cons f0 (dc_sub_cons f1 (dc_sub_cons f3 (dc_sub_cons f4 (dc_sub_cons f5 (dc_sub_nil)))))) ?_
    unfold d_X5_waitsForNone_l18
    rw [dc_lp_eq]
    show (fun t x => dc_lf u N ab_M_X5_waitsForNone (Φ (Option.bind t (dc_bk (d_X5_waitsForNone_l18s x0 x1 x3 x4 m)))) x) (d_X5_waitsForNone_l18b x0 x1 x3 x4 x5 m) _
    dsimp only
    unfold d_X5_waitsForNone_l18b
    refine dg_s (pc' := 20) [.int x5] rfl (fun _ => rfl) rfl ?_
    refine dg_s (pc' := 21) [.ref x1, .int x5] rfl (fun _ => rfl) rfl ?_
    refine dg_s (pc' := 24) [.int (m.1 x1 2), .int x5] rfl (fun _ => rfl) rfl ?_
    refine dw_if (fun t => Φ (Option.bind t (dc_bk (d_X5_waitsForNone_l18s x0 x1 x3 x4 m)))) ((Int32.toInt (m.1 x1 2)) ≤ (Int32.toInt x5)) [] 59 27 rfl (fun _ => rfl) (fun c0 => ?_) (fun c0 => ?_)
    · refine dw_g rfl ?_
      refine dg_s (pc' := 60) [.int (1 : Int32)] rfl (fun _ => rfl) rfl ?_
      exact dw_r (some (.inl (some (.int (1 : Int32)), m))) rfl (fun _ => rfl) (kR _)
    · refine dw_g rfl ?_
      refine dg_s (pc' := 29) [.int x4] rfl (fun _ => rfl) rfl ?_
      refine dg_s (pc' := 31) [.int x5, .int x4] rfl (fun _ => rfl) rfl ?_
      refine dg_s (pc' := 32) [.int (x4 >>> (x5 &&& 31))] rfl (fun _ => rfl) rfl ?_
      refine dg_s (pc' := 33) [.int (1 : Int32), .int (x4 >>> (x5 &&& 31))] rfl (fun _ => rfl) rfl ?_
      refine dg_s (pc' := 34) [.int ((x4 >>> (x5 &&& 31)) &&& (1 : Int32))] rfl (fun _ => rfl) rfl ?_
      refine dw_if (fun t => Φ (Option.bind t (dc_bk (d_X5_waitsForNone_l18s x0 x1 x3 x4 m)))) ((Int32.toInt ((x4 >>> (x5 &&& 31)) &&& (1 : Int32))) = 0) [] 53 37 rfl (fun _ => rfl) (fun c1 => ?_) (fun c1 => ?_)
      · refine dw_g rfl ?_
        refine dg_L (pc' := 56) [(5, .int (x5 + (1 : Int32))), (0, .ref x0), (1, .ref x1), (3, .int x3), (4, .int x4)] [] rfl (fun _ => rfl) rfl ?_
        refine dw_s (pc' := 18) [] rfl (fun _ => rfl) ?_
        exact dw_j rfl (fun lv1 hv => ih (x5 + (1 : Int32)) lv1 (hv.1 _ rfl) (hv.2.1 _ rfl) (hv.2.2.1 _ rfl) (hv.2.2.2.1 _ rfl) (hv.2.2.2.2.1 _ rfl))
      · refine dw_g rfl ?_
        refine dg_s (pc' := 38) [.int x3] rfl (fun _ => rfl) rfl ?_
        refine dg_s (pc' := 39) [.ref x0, .int x3] rfl (fun _ => rfl) rfl ?_
        refine dg_s (pc' := 42) [.ref (x0 + 1), .int x3] rfl (fun _ => rfl) rfl ?_
        refine dg_s (pc' := 44) [.int x5, .ref (x0 + 1), .int x3] rfl (fun _ => rfl) rfl ?_
        refine dg_s (pc' := 45) [.int (m.1 (x0 + 1) (Int32.toNatClampNeg x5)), .int x3] rfl (fun _ => rfl) rfl ?_
        refine dg_s (pc' := 46) [.int (x3 >>> ((m.1 (x0 + 1) (Int32.toNatClampNeg x5)) &&& 31))] rfl (fun _ => rfl) rfl ?_
        refine dg_s (pc' := 47) [.int (1 : Int32), .int (x3 >>> ((m.1 (x0 + 1) (Int32.toNatClampNeg x5)) &&& 31))] rfl (fun _ => rfl) rfl ?_
        refine dg_s (pc' := 48) [.int ((x3 >>> ((m.1 (x0 + 1) (Int32.toNatClampNeg x5)) &&& 31)) &&& (1 : Int32))] rfl (fun _ => rfl) rfl ?_
        refine dw_if (fun t => Φ (Option.bind t (dc_bk (d_X5_waitsForNone_l18s x0 x1 x3 x4 m)))) (¬ (Int32.toInt ((x3 >>> ((m.1 (x0 + 1) (Int32.toNatClampNeg x5)) &&& 31)) &&& (1 : Int32))) = 0) [] 53 51 rfl (fun _ => rfl) (fun c2 => ?_) (fun c2 => ?_)
        · refine dw_g rfl ?_
          refine dg_L (pc' := 56) [(5, .int (x5 + (1 : Int32))), (0, .ref x0), (1, .ref x1), (3, .int x3), (4, .int x4)] [] rfl (fun _ => rfl) rfl ?_
          refine dw_s (pc' := 18) [] rfl (fun _ => rfl) ?_
          exact dw_j rfl (fun lv1 hv => ih (x5 + (1 : Int32)) lv1 (hv.1 _ rfl) (hv.2.1 _ rfl) (hv.2.2.1 _ rfl) (hv.2.2.2.1 _ rfl) (hv.2.2.2.2.1 _ rfl))
        · refine dw_g rfl ?_
          refine dg_s (pc' := 52) [.int (0 : Int32)] rfl (fun _ => rfl) rfl ?_
          exact dw_r (some (.inl (some (.int (0 : Int32)), m))) rfl (fun _ => rfl) (kR _)
noncomputable def d_X5_waitsForNone (x0 : Nat) (x1 : Nat) (x2 : Int32) (x3 : Int32) (m : dc_M) : Option Int32 :=
  (d_X5_waitsForNone_l18 x0 x1 x3 ((m.1 (x1 + 6) (Int32.toNatClampNeg x2)) &&& ((m.1 x1 13) ^^^ (-1 : Int32))) (0 : Int32) m)
set_option maxHeartbeats 8000000 in
theorem k_X5_waitsForNone {u : Nat} {N : Nat} {Φ : (Option Int32) → Option Value → dc_M → Prop} (x0 : Nat) (x1 : Nat) (x2 : Int32) (x3 : Int32) (m : dc_M) (kR : ∀ (v : Int32), Φ (some (v)) (some (.int v)) m)  {lv : ab_L} (f0 : ab_lk lv 0 = some (.ref x0)) (f1 : ab_lk lv 1 = some (.ref x1)) (f2 : ab_lk lv 2 = some (.int x2)) (f3 : ab_lk lv 3 = some (.int x3)) : dc_pv u N ab_M_X5_waitsForNone 0 lv [] m (Φ (d_X5_waitsForNone x0 x1 x2 x3 m)) := by
  refine dc_pv.mono (dc_ok (C := C_X5_waitsForNone) (S := S_X5_waitsForNone) CO_X5_waitsForNone 400 0 [(0, .ref x0), (1, .ref x1), (2, .int x2), (3, .int x3)] lv [] m (dc_sub_cons f0 (dc_sub_cons f1 (dc_sub_cons f2 (dc_sub_cons f3 (dc_sub_nil))))) ?_) (Nat.le_succ N)
  unfold d_X5_waitsForNone
  refine dg_s (pc' := 1) [.ref x1] rfl (fun _ => rfl) rfl ?_
  refine dg_s (pc' := 4) [.ref (x1 + 6)] rfl (fun _ => rfl) rfl ?_
  refine dg_s (pc' := 5) [.int x2, .ref (x1 + 6)] rfl (fun _ => rfl) rfl ?_
  refine dg_s (pc' := 6) [.int (m.1 (x1 + 6) (Int32.toNatClampNeg x2))] rfl (fun _ => rfl) rfl ?_
  refine dg_s (pc' := 7) [.ref x1, .int (m.1 (x1 + 6) (Int32.toNatClampNeg x2))] rfl (fun _ => rfl) rfl ?_
  refine dg_s (pc' := 10) [.int (m.1 x1 13), .int (m.1 (x1 + 6) (Int32.toNatClampNeg x2))] rfl (fun _ => rfl) rfl ?_
  refine dg_s (pc' := 11) [.int (-1 : Int32), .int (m.1 x1 13), .int (m.1 (x1 + 6) (Int32.toNatClampNeg x2))] rfl (fun _ => rfl) rfl ?_
  refine dg_s (pc' := 12) [.int ((m.1 x1 13) ^^^ (-1 : Int32)), .int (m.1 (x1 + 6) (Int32.toNatClampNeg x2))] rfl (fun _ => rfl) rfl ?_
  refine dg_s (pc' := 13) [.int ((m.1 (x1 + 6) (Int32.toNatClampNeg x2)) &&& ((m.1 x1 13) ^^^ (-1 : Int32)))] rfl (fun _ => rfl) rfl ?_
  refine dg_L (pc' := 15) [(4, .int ((m.1 (x1 + 6) (Int32.toNatClampNeg x2)) &&& ((m.1 x1 13) ^^^ (-1 : Int32)))), (0, .ref x0), (1, .ref x1), (2, .int x2), (3, .int x3)] [] rfl (fun _ => rfl) rfl ?_
  refine dg_s (pc' := 16) [.int (0 : Int32)] rfl (fun _ => rfl) rfl ?_
  refine dw_L (pc' := 18) [(5, .int (0 : Int32)), (4, .int ((m.1 (x1 + 6) (Int32.toNatClampNeg x2)) &&& ((m.1 x1 13) ^^^ (-1 : Int32)))), (0, .ref x0), (1, .ref x1), (2, .int x2), (3, .int x3)] [] rfl (fun _ => rfl) ?_
  exact dw_j rfl (fun lv1 hv => k_X5_waitsForNone_l18 (Φ := (fun t => Φ t)) x0 x1 x3 ((m.1 (x1 + 6) (Int32.toNatClampNeg x2)) &&& ((m.1 x1 13) ^^^ (-1 : Int32))) m (fun _a  => kR _a) N  (0 : Int32) lv1 (hv.1 _ rfl) (hv.2.1 _ rfl) (hv.2.2.1 _ rfl) (hv.2.2.2.1 _ rfl) (hv.2.2.2.2.1 _ rfl))
noncomputable def H_X5_waitsForNone : dc_H := fun As m k => match As with
  | [.ref x0, .ref x1, .int x2, .int x3] => (d_X5_waitsForNone x0 x1 x2 x3 m).bind (fun q => k (some (.int q)) m)
  | _ => dc_kz
theorem H_X5_waitsForNone_ok {u : Nat} : dc_cok u 66 H_X5_waitsForNone := fun M' hG N As m k P hz hP => by
  obtain rfl : ab_M_X5_waitsForNone = M' := Option.some.inj hG
  unfold H_X5_waitsForNone at hP
  split at hP
  · rename_i x0 x1 x2 x3
    exact dc_pv.imp (k_X5_waitsForNone (Φ := fun (t : Option Int32) r m' => P (t.bind (fun q => k (some (.int q)) m)) → P (k r m')) x0 x1 x2 x3 m (fun _  h => h) rfl rfl rfl rfl) (fun r m' h => h hP)
  · exact absurd hP hz
noncomputable def C_X5_putInOrder : List (Nat × dc_H) := [(66, H_X5_waitsForNone)]
theorem CO_X5_putInOrder {u : Nat} : dc_CO u C_X5_putInOrder := dc_CO_cons H_X5_waitsForNone_ok (dc_CO_nil)
def S_X5_putInOrder : List (Nat × List Nat) := [(9, [0, 1, 2, 3]), (20, [0, 1, 2, 3, 4]), (89, [0, 1])]
noncomputable def d_X5_putInOrder_b89 (x0 : Nat) (x1 : Nat) (m : dc_M) : Option (Int32 × dc_M) :=
  (if ¬ (Int32.toInt (m.1 x0 7)) = (Int32.toInt (m.1 x1 1)) then some (((0 : Int32), m)) else some (((1 : Int32), m)))
set_option maxHeartbeats 8000000 in
theorem k_X5_putInOrder_b89 {u : Nat} {N : Nat} {Φ : (Option (Int32 × dc_M)) → Option Value → dc_M → Prop} (x0 : Nat) (x1 : Nat) (m : dc_M) (kR : ∀ (v : Int32) (m : dc_M), Φ (some ((v, m))) (some (.int v)) m)  {lv : ab_L} (f0 : ab_lk lv 0 = some (.ref x0)) (f1 : ab_lk lv 1 = some (.ref x1)) : dc_pv u N ab_M_X5_putInOrder 89 lv [] m (Φ (d_X5_putInOrder_b89 x0 x1 m)) := by
  refine dc_pv.mono (dc_ok (C := C_X5_putInOrder) (S := S_X5_putInOrder) CO_X5_putInOrder 400 89 [(0, .ref x0), (1, .ref x1)] lv [] m (dc_sub_cons f0 (dc_sub_cons f1 (dc_sub_nil))) ?_) (Nat.le_succ N)
  unfold d_X5_putInOrder_b89
  refine dg_s (pc' := 90) [.ref x0] rfl (fun _ => rfl) rfl ?_
  refine dg_s (pc' := 93) [.int (m.1 x0 7)] rfl (fun _ => rfl) rfl ?_
  refine dg_s (pc' := 94) [.ref x1, .int (m.1 x0 7)] rfl (fun _ => rfl) rfl ?_
  refine dg_s (pc' := 97) [.int (m.1 x1 1), .int (m.1 x0 7)] rfl (fun _ => rfl) rfl ?_
  refine dw_if (fun t => Φ t) (¬ (Int32.toInt (m.1 x0 7)) = (Int32.toInt (m.1 x1 1))) [] 104 100 rfl (fun _ => rfl) (fun c0 => ?_) (fun c0 => ?_)
  · refine dw_g rfl ?_
    refine dg_s (pc' := 105) [.int (0 : Int32)] rfl (fun _ => rfl) rfl ?_
    exact dw_r (some (.inl (some (.int (0 : Int32)), m))) rfl (fun _ => rfl) (kR _ _)
  · refine dw_g rfl ?_
    refine dg_s (pc' := 101) [.int (1 : Int32)] rfl (fun _ => rfl) rfl ?_
    refine dg_s (pc' := 105) [.int (1 : Int32)] rfl (fun _ => rfl) rfl ?_
    exact dw_r (some (.inl (some (.int (1 : Int32)), m))) rfl (fun _ => rfl) (kR _ _)
noncomputable def d_X5_putInOrder_l20b (x0 : Nat) (x1 : Nat) (x3 : Int32) (x2 : Int32) (x4 : Int32) (m : dc_M) : Option ((Int32 × Int32 × dc_M) ⊕ ((Int32 × Int32 × dc_M) ⊕ (Int32 × dc_M))) :=
  (if (Int32.toInt (m.1 x1 1)) ≤ (Int32.toInt x4) then some (Sum.inr (Sum.inl (x2, (x3 + (1 : Int32)), m))) else (if ¬ (Int32.toInt ((x2 >>> (x4 &&& 31)) &&& (1 : Int32))) = 0 then some (Sum.inl (x2, (x4 + (1 : Int32)), m)) else ((d_X5_waitsForNone x0 x1 x4 x2 m).bind (fun q1 => (if (Int32.toInt q1) = 0 then some (Sum.inl (x2, (x4 + (1 : Int32)), m)) else some (Sum.inl ((x2 ||| ((1 : Int32) <<< (x4 &&& 31))), (x4 + (1 : Int32)), (dc_wi (dc_wi m (x0 + 3) (Int32.toNatClampNeg (m.1 x0 7)) x4) x0 7 (((dc_wi m (x0 + 3) (Int32.toNatClampNeg (m.1 x0 7)) x4).1 x0 7) + (1 : Int32))))))))))
noncomputable def d_X5_putInOrder_l20s (x0 : Nat) (x1 : Nat) (x3 : Int32) : (Int32 × Int32 × dc_M) → Option ((Int32 × Int32 × dc_M) ⊕ ((Int32 × Int32 × dc_M) ⊕ (Int32 × dc_M))) := fun s => d_X5_putInOrder_l20b x0 x1 x3 s.1 s.2.1 s.2.2
noncomputable def d_X5_putInOrder_l20 (x0 : Nat) (x1 : Nat) (x3 : Int32) (x2 : Int32) (x4 : Int32) (m : dc_M) : Option ((Int32 × Int32 × dc_M) ⊕ (Int32 × dc_M)) := dc_lp (d_X5_putInOrder_l20s x0 x1 x3) (x2, x4, m)
set_option maxHeartbeats 8000000 in
theorem k_X5_putInOrder_l20 {u : Nat} {Φ : (Option ((Int32 × Int32 × dc_M) ⊕ (Int32 × dc_M))) → Option Value → dc_M → Prop} (x0 : Nat) (x1 : Nat) (x3 : Int32) (kR : ∀ (v : Int32) (m : dc_M), Φ (some (Sum.inr ((v, m)))) (some (.int v)) m) : ∀ (N : Nat), (∀ (x2 : Int32) (x3 : Int32) (m : dc_M) (lv : ab_L), ab_lk lv 0 = some (.ref x0) → ab_lk lv 1 = some (.ref x1) → ab_lk lv 2 = some (.int x2) → ab_lk lv 3 = some (.int x3) →  dc_pv u N ab_M_X5_putInOrder 9 lv [] m (Φ (some (Sum.inl (x2, x3, m))))) → ∀ (x2 : Int32) (x4 : Int32) (m : dc_M) (lv : ab_L), ab_lk lv 0 = some (.ref x0) → ab_lk lv 1 = some (.ref x1) → ab_lk lv 2 = some (.int x2) → ab_lk lv 3 = some (.int x3) → ab_lk lv 4 = some (.int x4) → dc_pv u N ab_M_X5_putInOrder 20 lv [] m (Φ (d_X5_putInOrder_l20 x0 x1 x3 x2 x4 m)) := by
  intro N
  induction N with
  | zero => intros; exact dc_pv_zero
  | succ N ih =>
    intro k9 x2 x4 m lv f0 f1 f2 f3 f4
    have k9 := fun a0 a1 a2 a3 a4 a5 a6 a7 => (k9 a0 a1 a2 a3 a4 a5 a6 a7).mono (Nat.le_succ N)
    have ih := ih k9
    refine dc_ok (C := C_X5_putInOrder) (S := S_X5_putInOrder) CO_X5_putInOrder 400 20 [(0, .ref x0), (1, .ref x1), (2, .int x2), (3, .int x3), (4, .int x4)] lv [] m (dc_sub_cons f0 (dc_sub_cons f1 (dc_sub_cons f2 (dc_sub_cons f3 (dc_sub_cons f4 (dc_sub_nil)))))) ?_
    unfold d_X5_putInOrder_l20
    rw [dc_lp_eq]
    show (fun t x => dc_lf u N ab_M_X5_putInOrder (Φ (Option.bind t (dc_bk (d_X5_putInOrder_l20s x0 x1 x3)))) x) (d_X5_putInOrder_l20b x0 x1 x3 x2 x4 m) _
    dsimp only
    unfold d_X5_putInOrder_l20b
    refine dg_s (pc' := 22) [.int x4] rfl (fun _ => rfl) rfl ?_
    refine dg_s (pc' := 23) [.ref x1, .int x4] rfl (fun _ => rfl) rfl ?_
    refine dg_s (pc' := 26) [.int (m.1 x1 1), .int x4] rfl (fun _ => rfl) rfl ?_
    refine dw_if (fun t => Φ (Option.bind t (dc_bk (d_X5_putInOrder_l20s x0 x1 x3)))) ((Int32.toInt (m.1 x1 1)) ≤ (Int32.toInt x4)) [] 83 29 rfl (fun _ => rfl) (fun c0 => ?_) (fun c0 => ?_)
    · refine dw_g rfl ?_
      refine dg_L (pc' := 86) [(3, .int (x3 + (1 : Int32))), (0, .ref x0), (1, .ref x1), (2, .int x2), (4, .int x4)] [] rfl (fun _ => rfl) rfl ?_
      refine dw_s (pc' := 9) [] rfl (fun _ => rfl) ?_
      exact dw_j rfl (fun lv1 hv => k9 x2 (x3 + (1 : Int32)) m lv1 (hv.1 _ rfl) (hv.2.1 _ rfl) (hv.2.2.1 _ rfl) (hv.2.2.2.1 _ rfl))
    · refine dw_g rfl ?_
      refine dg_s (pc' := 30) [.int x2] rfl (fun _ => rfl) rfl ?_
      refine dg_s (pc' := 32) [.int x4, .int x2] rfl (fun _ => rfl) rfl ?_
      refine dg_s (pc' := 33) [.int (x2 >>> (x4 &&& 31))] rfl (fun _ => rfl) rfl ?_
      refine dg_s (pc' := 34) [.int (1 : Int32), .int (x2 >>> (x4 &&& 31))] rfl (fun _ => rfl) rfl ?_
      refine dg_s (pc' := 35) [.int ((x2 >>> (x4 &&& 31)) &&& (1 : Int32))] rfl (fun _ => rfl) rfl ?_
      refine dw_if (fun t => Φ (Option.bind t (dc_bk (d_X5_putInOrder_l20s x0 x1 x3)))) (¬ (Int32.toInt ((x2 >>> (x4 &&& 31)) &&& (1 : Int32))) = 0) [] 77 38 rfl (fun _ => rfl) (fun c1 => ?_) (fun c1 => ?_)
      · refine dw_g rfl ?_
        refine dg_L (pc' := 80) [(4, .int (x4 + (1 : Int32))), (0, .ref x0), (1, .ref x1), (2, .int x2), (3, .int x3)] [] rfl (fun _ => rfl) rfl ?_
        refine dw_s (pc' := 20) [] rfl (fun _ => rfl) ?_
        exact dw_j rfl (fun lv1 hv => ih x2 (x4 + (1 : Int32)) m lv1 (hv.1 _ rfl) (hv.2.1 _ rfl) (hv.2.2.1 _ rfl) (hv.2.2.2.1 _ rfl) (hv.2.2.2.2.1 _ rfl))
      · refine dw_g rfl ?_
        refine dg_s (pc' := 39) [.ref x0] rfl (fun _ => rfl) rfl ?_
        refine dg_s (pc' := 40) [.ref x1, .ref x0] rfl (fun _ => rfl) rfl ?_
        refine dg_s (pc' := 42) [.int x4, .ref x1, .ref x0] rfl (fun _ => rfl) rfl ?_
        refine dg_s (pc' := 43) [.int x2, .int x4, .ref x1, .ref x0] rfl (fun _ => rfl) rfl ?_
        refine dw_b (fun t => Φ (Option.bind t (dc_bk (d_X5_putInOrder_l20s x0 x1 x3)))) (pc' := 46) (fun q1 => [.int q1]) (fun q1 => m) rfl (fun _ => rfl) (fun q1 => ?_)
        refine dw_g rfl ?_
        refine dw_if (fun t => Φ (Option.bind t (dc_bk (d_X5_putInOrder_l20s x0 x1 x3)))) ((Int32.toInt q1) = 0) [] 77 49 rfl (fun _ => rfl) (fun c2 => ?_) (fun c2 => ?_)
        · refine dw_g rfl ?_
          refine dg_L (pc' := 80) [(4, .int (x4 + (1 : Int32))), (0, .ref x0), (1, .ref x1), (2, .int x2), (3, .int x3)] [] rfl (fun _ => rfl) rfl ?_
          refine dw_s (pc' := 20) [] rfl (fun _ => rfl) ?_
          exact dw_j rfl (fun lv1 hv => ih x2 (x4 + (1 : Int32)) m lv1 (hv.1 _ rfl) (hv.2.1 _ rfl) (hv.2.2.1 _ rfl) (hv.2.2.2.1 _ rfl) (hv.2.2.2.2.1 _ rfl))
        · refine dw_g rfl ?_
          refine dg_s (pc' := 50) [.int x2] rfl (fun _ => rfl) rfl ?_
          refine dg_s (pc' := 51) [.int (1 : Int32), .int x2] rfl (fun _ => rfl) rfl ?_
          refine dg_s (pc' := 53) [.int x4, .int (1 : Int32), .int x2] rfl (fun _ => rfl) rfl ?_
          refine dg_s (pc' := 54) [.int ((1 : Int32) <<< (x4 &&& 31)), .int x2] rfl (fun _ => rfl) rfl ?_
          refine dg_s (pc' := 55) [.int (x2 ||| ((1 : Int32) <<< (x4 &&& 31)))] rfl (fun _ => rfl) rfl ?_
          refine dg_L (pc' := 56) [(2, .int (x2 ||| ((1 : Int32) <<< (x4 &&& 31)))), (0, .ref x0), (1, .ref x1), (3, .int x3), (4, .int x4)] [] rfl (fun _ => rfl) rfl ?_
          refine dg_s (pc' := 57) [.ref x0] rfl (fun _ => rfl) rfl ?_
          refine dg_s (pc' := 60) [.ref (x0 + 3)] rfl (fun _ => rfl) rfl ?_
          refine dg_s (pc' := 61) [.ref x0, .ref (x0 + 3)] rfl (fun _ => rfl) rfl ?_
          refine dg_s (pc' := 64) [.int (m.1 x0 7), .ref (x0 + 3)] rfl (fun _ => rfl) rfl ?_
          refine dg_s (pc' := 66) [.int x4, .int (m.1 x0 7), .ref (x0 + 3)] rfl (fun _ => rfl) rfl ?_
          refine dg_m (pc' := 67) (dc_wi m (x0 + 3) (Int32.toNatClampNeg (m.1 x0 7)) x4) [] rfl (fun _ => rfl) rfl ?_
          refine dg_s (pc' := 68) [.ref x0] rfl (fun _ => rfl) rfl ?_
          refine dg_s (pc' := 69) [.ref x0, .ref x0] rfl (fun _ => rfl) rfl ?_
          refine dg_s (pc' := 72) [.int ((dc_wi m (x0 + 3) (Int32.toNatClampNeg (m.1 x0 7)) x4).1 x0 7), .ref x0] rfl (fun _ => rfl) rfl ?_
          refine dg_s (pc' := 73) [.int (1 : Int32), .int ((dc_wi m (x0 + 3) (Int32.toNatClampNeg (m.1 x0 7)) x4).1 x0 7), .ref x0] rfl (fun _ => rfl) rfl ?_
          refine dg_s (pc' := 74) [.int (((dc_wi m (x0 + 3) (Int32.toNatClampNeg (m.1 x0 7)) x4).1 x0 7) + (1 : Int32)), .ref x0] rfl (fun _ => rfl) rfl ?_
          refine dg_m (pc' := 77) (dc_wi (dc_wi m (x0 + 3) (Int32.toNatClampNeg (m.1 x0 7)) x4) x0 7 (((dc_wi m (x0 + 3) (Int32.toNatClampNeg (m.1 x0 7)) x4).1 x0 7) + (1 : Int32))) [] rfl (fun _ => rfl) rfl ?_
          refine dg_L (pc' := 80) [(4, .int (x4 + (1 : Int32))), (2, .int (x2 ||| ((1 : Int32) <<< (x4 &&& 31)))), (0, .ref x0), (1, .ref x1), (3, .int x3)] [] rfl (fun _ => rfl) rfl ?_
          refine dw_s (pc' := 20) [] rfl (fun _ => rfl) ?_
          exact dw_j rfl (fun lv1 hv => ih (x2 ||| ((1 : Int32) <<< (x4 &&& 31))) (x4 + (1 : Int32)) (dc_wi (dc_wi m (x0 + 3) (Int32.toNatClampNeg (m.1 x0 7)) x4) x0 7 (((dc_wi m (x0 + 3) (Int32.toNatClampNeg (m.1 x0 7)) x4).1 x0 7) + (1 : Int32))) lv1 (hv.1 _ rfl) (hv.2.1 _ rfl) (hv.2.2.1 _ rfl) (hv.2.2.2.1 _ rfl) (hv.2.2.2.2.1 _ rfl))
noncomputable def d_X5_putInOrder_l9b (x0 : Nat) (x1 : Nat) (x2 : Int32) (x3 : Int32) (m : dc_M) : Option ((Int32 × Int32 × dc_M) ⊕ (Int32 × dc_M)) :=
  (if (Int32.toInt (m.1 x1 1)) ≤ (Int32.toInt x3) then ((d_X5_putInOrder_b89 x0 x1 m).map (fun z => Sum.inr (z))) else (d_X5_putInOrder_l20 x0 x1 x3 x2 (0 : Int32) m))
noncomputable def d_X5_putInOrder_l9s (x0 : Nat) (x1 : Nat) : (Int32 × Int32 × dc_M) → Option ((Int32 × Int32 × dc_M) ⊕ (Int32 × dc_M)) := fun s => d_X5_putInOrder_l9b x0 x1 s.1 s.2.1 s.2.2
noncomputable def d_X5_putInOrder_l9 (x0 : Nat) (x1 : Nat) (x2 : Int32) (x3 : Int32) (m : dc_M) : Option (Int32 × dc_M) := dc_lp (d_X5_putInOrder_l9s x0 x1) (x2, x3, m)
set_option maxHeartbeats 8000000 in
theorem k_X5_putInOrder_l9 {u : Nat} {Φ : (Option (Int32 × dc_M)) → Option Value → dc_M → Prop} (x0 : Nat) (x1 : Nat) (kR : ∀ (v : Int32) (m : dc_M), Φ (some ((v, m))) (some (.int v)) m) : ∀ (N : Nat), ∀ (x2 : Int32) (x3 : Int32) (m : dc_M) (lv : ab_L), ab_lk lv 0 = some (.ref x0) → ab_lk lv 1 = some (.ref x1) → ab_lk lv 2 = some (.int x2) → ab_lk lv 3 = some (.int x3) → dc_pv u N ab_M_X5_putInOrder 9 lv [] m (Φ (d_X5_putInOrder_l9 x0 x1 x2 x3 m)) := by
  intro N
  induction N with
  | zero => intros; exact dc_pv_zero
  | succ N ih =>
    intro x2 x3 m lv f0 f1 f2 f3
    refine dc_ok (C := C_X5_putInOrder) (S := S_X5_putInOrder) CO_X5_putInOrder 400 9 [(0, .ref x0), (1, .ref x1), (2, .int x2), (3, .int x3)] lv [] m (dc_sub_cons f0 (dc_sub_cons f1 (dc_sub_cons f2 (dc_sub_cons f3 (dc_sub_nil))))) ?_
    unfold d_X5_putInOrder_l9
    rw [dc_lp_eq]
    show (fun t x => dc_lf u N ab_M_X5_putInOrder (Φ (Option.bind t (dc_bk (d_X5_putInOrder_l9s x0 x1)))) x) (d_X5_putInOrder_l9b x0 x1 x2 x3 m) _
    dsimp only
    unfold d_X5_putInOrder_l9b
    refine dg_s (pc' := 10) [.int x3] rfl (fun _ => rfl) rfl ?_
    refine dg_s (pc' := 11) [.ref x1, .int x3] rfl (fun _ => rfl) rfl ?_
    refine dg_s (pc' := 14) [.int (m.1 x1 1), .int x3] rfl (fun _ => rfl) rfl ?_
    refine dw_if (fun t => Φ (Option.bind t (dc_bk (d_X5_putInOrder_l9s x0 x1)))) ((Int32.toInt (m.1 x1 1)) ≤ (Int32.toInt x3)) [] 89 17 rfl (fun _ => rfl) (fun c0 => ?_) (fun c0 => ?_)
    · exact dw_j rfl (fun lv1 hv => k_X5_putInOrder_b89 (Φ := (fun t => Φ (Option.bind (t.map (fun z => Sum.inr (z))) (dc_bk (d_X5_putInOrder_l9s x0 x1))))) x0 x1 m (fun _a _b => kR _a _b)  (hv.1 _ rfl) (hv.2.1 _ rfl))
    · refine dw_g rfl ?_
      refine dg_s (pc' := 18) [.int (0 : Int32)] rfl (fun _ => rfl) rfl ?_
      refine dw_L (pc' := 20) [(4, .int (0 : Int32)), (0, .ref x0), (1, .ref x1), (2, .int x2), (3, .int x3)] [] rfl (fun _ => rfl) ?_
      exact dw_j rfl (fun lv1 hv => k_X5_putInOrder_l20 (Φ := (fun t => Φ (Option.bind t (dc_bk (d_X5_putInOrder_l9s x0 x1))))) x0 x1 x3 (fun _a _b => kR _a _b) N ih x2 (0 : Int32) m lv1 (hv.1 _ rfl) (hv.2.1 _ rfl) (hv.2.2.1 _ rfl) (hv.2.2.2.1 _ rfl) (hv.2.2.2.2.1 _ rfl))
noncomputable def d_X5_putInOrder (x0 : Nat) (x1 : Nat) (m : dc_M) : Option (Int32 × dc_M) :=
  (d_X5_putInOrder_l9 x0 x1 (0 : Int32) (0 : Int32) (dc_wi m x0 7 (0 : Int32)))
set_option maxHeartbeats 8000000 in
theorem k_X5_putInOrder {u : Nat} {N : Nat} {Φ : (Option (Int32 × dc_M)) → Option Value → dc_M → Prop} (x0 : Nat) (x1 : Nat) (m : dc_M) (kR : ∀ (v : Int32) (m : dc_M), Φ (some ((v, m))) (some (.int v)) m)  {lv : ab_L} (f0 : ab_lk lv 0 = some (.ref x0)) (f1 : ab_lk lv 1 = some (.ref x1)) : dc_pv u N ab_M_X5_putInOrder 0 lv [] m (Φ (d_X5_putInOrder x0 x1 m)) := by
  refine dc_pv.mono (dc_ok (C := C_X5_putInOrder) (S := S_X5_putInOrder) CO_X5_putInOrder 400 0 [(0, .ref x0), (1, .ref x1)] lv [] m (dc_sub_cons f0 (dc_sub_cons f1 (dc_sub_nil))) ?_) (Nat.le_succ N)
  unfold d_X5_putInOrder
  refine dg_s (pc' := 1) [.int (0 : Int32)] rfl (fun _ => rfl) rfl ?_
  refine dg_L (pc' := 2) [(2, .int (0 : Int32)), (0, .ref x0), (1, .ref x1)] [] rfl (fun _ => rfl) rfl ?_
  refine dg_s (pc' := 3) [.ref x0] rfl (fun _ => rfl) rfl ?_
  refine dg_s (pc' := 4) [.int (0 : Int32), .ref x0] rfl (fun _ => rfl) rfl ?_
  refine dg_m (pc' := 7) (dc_wi m x0 7 (0 : Int32)) [] rfl (fun _ => rfl) rfl ?_
  refine dg_s (pc' := 8) [.int (0 : Int32)] rfl (fun _ => rfl) rfl ?_
  refine dw_L (pc' := 9) [(3, .int (0 : Int32)), (2, .int (0 : Int32)), (0, .ref x0), (1, .ref x1)] [] rfl (fun _ => rfl) ?_
  exact dw_j rfl (fun lv1 hv => k_X5_putInOrder_l9 (Φ := (fun t => Φ t)) x0 x1 (fun _a _b => kR _a _b) N  (0 : Int32) (0 : Int32) (dc_wi m x0 7 (0 : Int32)) lv1 (hv.1 _ rfl) (hv.2.1 _ rfl) (hv.2.2.1 _ rfl) (hv.2.2.2.1 _ rfl))
noncomputable def H_X5_putInOrder : dc_H := fun As m k => match As with
  | [.ref x0, .ref x1] => (d_X5_putInOrder x0 x1 m).bind (fun q => k (some (.int q.1)) q.2)
  | _ => dc_kz
theorem H_X5_putInOrder_ok {u : Nat} : dc_cok u 65 H_X5_putInOrder := fun M' hG N As m k P hz hP => by
  obtain rfl : ab_M_X5_putInOrder = M' := Option.some.inj hG
  unfold H_X5_putInOrder at hP
  split at hP
  · rename_i x0 x1
    exact dc_pv.imp (k_X5_putInOrder (Φ := fun (t : Option (Int32 × dc_M)) r m' => P (t.bind (fun q => k (some (.int q.1)) q.2)) → P (k r m')) x0 x1 m (fun _ _ h => h) rfl rfl) (fun r m' h => h hP)
  · exact absurd hP hz
noncomputable def C_X5_find : List (Nat × dc_H) := [(71, H_X5_findBeat), (67, H_X5_findClosedWays), (64, H_X5_findEnds), (65, H_X5_putInOrder)]
theorem CO_X5_find {u : Nat} : dc_CO u C_X5_find := dc_CO_cons H_X5_findBeat_ok (dc_CO_cons H_X5_findClosedWays_ok (dc_CO_cons H_X5_findEnds_ok (dc_CO_cons H_X5_putInOrder_ok (dc_CO_nil))))
def S_X5_find : List (Nat × List Nat) := [(37, [0, 1]), (50, [0, 1, 2]), (70, [0, 1])]
noncomputable def d_X5_find_b70 (x0 : Nat) (x1 : Nat) (m : dc_M) : Option dc_M :=
  ((d_X5_findBeat x0 (m.1 x1 1) m).bind (fun q1 => some (q1)))
set_option maxHeartbeats 8000000 in
theorem k_X5_find_b70 {u : Nat} {N : Nat} {Φ : (Option dc_M) → Option Value → dc_M → Prop} (x0 : Nat) (x1 : Nat) (m : dc_M) (kR : ∀  (m : dc_M), Φ (some (m)) (none) m)  {lv : ab_L} (f0 : ab_lk lv 0 = some (.ref x0)) (f1 : ab_lk lv 1 = some (.ref x1)) : dc_pv u N ab_M_X5_find 70 lv [] m (Φ (d_X5_find_b70 x0 x1 m)) := by
  refine dc_pv.mono (dc_ok (C := C_X5_find) (S := S_X5_find) CO_X5_find 400 70 [(0, .ref x0), (1, .ref x1)] lv [] m (dc_sub_cons f0 (dc_sub_cons f1 (dc_sub_nil))) ?_) (Nat.le_succ N)
  unfold d_X5_find_b70
  refine dg_s (pc' := 71) [.ref x0] rfl (fun _ => rfl) rfl ?_
  refine dg_s (pc' := 72) [.ref x1, .ref x0] rfl (fun _ => rfl) rfl ?_
  refine dg_s (pc' := 75) [.int (m.1 x1 1), .ref x0] rfl (fun _ => rfl) rfl ?_
  refine dw_b (fun t => Φ t) (pc' := 78) (fun q1 => []) (fun q1 => q1) rfl (fun _ => rfl) (fun q1 => ?_)
  refine dw_g rfl ?_
  exact dw_r (some (.inl (none, q1))) rfl (fun _ => rfl) (kR _)
noncomputable def d_X5_find_l50b (x0 : Nat) (x1 : Nat) (x2 : Int32) (m : dc_M) : Option ((Int32 × dc_M) ⊕ dc_M) :=
  (if (Int32.toInt (m.1 x1 1)) ≤ (Int32.toInt x2) then ((d_X5_find_b70 x0 x1 m).map (fun z => Sum.inr (z))) else ((d_X5_findClosedWays x0 x1 x2 m).bind (fun q1 => some (Sum.inl ((x2 + (1 : Int32)), q1)))))
noncomputable def d_X5_find_l50s (x0 : Nat) (x1 : Nat) : (Int32 × dc_M) → Option ((Int32 × dc_M) ⊕ dc_M) := fun s => d_X5_find_l50b x0 x1 s.1 s.2
noncomputable def d_X5_find_l50 (x0 : Nat) (x1 : Nat) (x2 : Int32) (m : dc_M) : Option dc_M := dc_lp (d_X5_find_l50s x0 x1) (x2, m)
set_option maxHeartbeats 8000000 in
theorem k_X5_find_l50 {u : Nat} {Φ : (Option dc_M) → Option Value → dc_M → Prop} (x0 : Nat) (x1 : Nat) (kR : ∀  (m : dc_M), Φ (some (m)) (none) m) : ∀ (N : Nat), ∀ (x2 : Int32) (m : dc_M) (lv : ab_L), ab_lk lv 0 = some (.ref x0) → ab_lk lv 1 = some (.ref x1) → ab_lk lv 2 = some (.int x2) → dc_pv u N ab_M_X5_find 50 lv [] m (Φ (d_X5_find_l50 x0 x1 x2 m)) := by
  intro N
  induction N with
  | zero => intros; exact dc_pv_zero
  | succ N ih =>
    intro x2 m lv f0 f1 f2
    refine dc_ok (C := C_X5_find) (S := S_X5_find) CO_X5_find 400 50 [(0, .ref x0), (1, .ref x1), (2, .int x2)] lv [] m (dc_sub_cons f0 (dc_sub_cons f1 (dc_sub_cons f2 (dc_sub_nil)))) ?_
    unfold d_X5_find_l50
    rw [dc_lp_eq]
    show (fun t x => dc_lf u N ab_M_X5_find (Φ (Option.bind t (dc_bk (d_X5_find_l50s x0 x1)))) x) (d_X5_find_l50b x0 x1 x2 m) _
    dsimp only
    unfold d_X5_find_l50b
    refine dg_s (pc' := 51) [.int x2] rfl (fun _ => rfl) rfl ?_
    refine dg_s (pc' := 52) [.ref x1, .int x2] rfl (fun _ => rfl) rfl ?_
    refine dg_s (pc' := 55) [.int (m.1 x1 1), .int x2] rfl (fun _ => rfl) rfl ?_
    refine dw_if (fun t => Φ (Option.bind t (dc_bk (d_X5_find_l50s x0 x1)))) ((Int32.toInt (m.1 x1 1)) ≤ (Int32.toInt x2)) [] 70 58 rfl (fun _ => rfl) (fun c0 => ?_) (fun c0 => ?_)
    · exact dw_j rfl (fun lv1 hv => k_X5_find_b70 (Φ := (fun t => Φ (Option.bind (t.map (fun z => Sum.inr (z))) (dc_bk (d_X5_find_l50s x0 x1))))) x0 x1 m (fun _b => kR _b)  (hv.1 _ rfl) (hv.2.1 _ rfl))
    · refine dw_g rfl ?_
      refine dg_s (pc' := 59) [.ref x0] rfl (fun _ => rfl) rfl ?_
      refine dg_s (pc' := 60) [.ref x1, .ref x0] rfl (fun _ => rfl) rfl ?_
      refine dg_s (pc' := 61) [.int x2, .ref x1, .ref x0] rfl (fun _ => rfl) rfl ?_
      refine dw_b (fun t => Φ (Option.bind t (dc_bk (d_X5_find_l50s x0 x1)))) (pc' := 64) (fun q1 => []) (fun q1 => q1) rfl (fun _ => rfl) (fun q1 => ?_)
      refine dw_g rfl ?_
      refine dg_L (pc' := 67) [(2, .int (x2 + (1 : Int32))), (0, .ref x0), (1, .ref x1)] [] rfl (fun _ => rfl) rfl ?_
      refine dw_s (pc' := 50) [] rfl (fun _ => rfl) ?_
      exact dw_j rfl (fun lv1 hv => ih (x2 + (1 : Int32)) q1 lv1 (hv.1 _ rfl) (hv.2.1 _ rfl) (hv.2.2.1 _ rfl))
noncomputable def d_X5_find_b37 (x0 : Nat) (x1 : Nat) (s0 : Int32) (s1 : Nat) (m : dc_M) : Option dc_M :=
  (if ¬ (Int32.toInt ((dc_wi m s1 0 s0).1 x0 0)) = 0 then (d_X5_find_l50 x0 x1 (0 : Int32) (dc_wi m s1 0 s0)) else some ((dc_wi m s1 0 s0)))
set_option maxHeartbeats 8000000 in
theorem k_X5_find_b37 {u : Nat} {N : Nat} {Φ : (Option dc_M) → Option Value → dc_M → Prop} (x0 : Nat) (x1 : Nat) (s0 : Int32) (s1 : Nat) (m : dc_M) (kR : ∀  (m : dc_M), Φ (some (m)) (none) m)  {lv : ab_L} (f0 : ab_lk lv 0 = some (.ref x0)) (f1 : ab_lk lv 1 = some (.ref x1)) : dc_pv u N ab_M_X5_find 37 lv [.int s0, .ref s1] m (Φ (d_X5_find_b37 x0 x1 s0 s1 m)) := by
  refine dc_pv.mono (dc_ok (C := C_X5_find) (S := S_X5_find) CO_X5_find 400 37 [(0, .ref x0), (1, .ref x1)] lv [.int s0, .ref s1] m (dc_sub_cons f0 (dc_sub_cons f1 (dc_sub_nil))) ?_) (Nat.le_succ N)
  unfold d_X5_find_b37
  refine dg_m (pc' := 40) (dc_wi m s1 0 s0) [] rfl (fun _ => rfl) rfl ?_
  refine dg_s (pc' := 41) [.ref x0] rfl (fun _ => rfl) rfl ?_
  refine dg_s (pc' := 44) [.int ((dc_wi m s1 0 s0).1 x0 0)] rfl (fun _ => rfl) rfl ?_
  refine dw_if (fun t => Φ t) (¬ (Int32.toInt ((dc_wi m s1 0 s0).1 x0 0)) = 0) [] 48 47 rfl (fun _ => rfl) (fun c0 => ?_) (fun c0 => ?_)
  · refine dw_g rfl ?_
    refine dg_s (pc' := 49) [.int (0 : Int32)] rfl (fun _ => rfl) rfl ?_
    refine dw_L (pc' := 50) [(2, .int (0 : Int32)), (0, .ref x0), (1, .ref x1)] [] rfl (fun _ => rfl) ?_
    exact dw_j rfl (fun lv1 hv => k_X5_find_l50 (Φ := (fun t => Φ t)) x0 x1 (fun _b => kR _b) N  (0 : Int32) (dc_wi m s1 0 s0) lv1 (hv.1 _ rfl) (hv.2.1 _ rfl) (hv.2.2.1 _ rfl))
  · refine dw_g rfl ?_
    exact dw_r (some (.inl (none, (dc_wi m s1 0 s0)))) rfl (fun _ => rfl) (kR _)
noncomputable def d_X5_find (x0 : Nat) (x1 : Nat) (m : dc_M) : Option dc_M :=
  ((d_X5_findEnds x0 x1 (dc_wi (dc_wi (dc_wi m x0 1 (0 : Int32)) x0 2 (0 : Int32)) x0 3 (0 : Int32))).bind (fun q1 => (if (Int32.toInt q1.1) = 0 then (d_X5_find_b37 x0 x1 (0 : Int32) x0 q1.2) else ((d_X5_putInOrder x0 x1 q1.2).bind (fun q2 => (if (Int32.toInt q2.1) = 0 then (d_X5_find_b37 x0 x1 (0 : Int32) x0 q2.2) else (d_X5_find_b37 x0 x1 (1 : Int32) x0 q2.2)))))))
set_option maxHeartbeats 8000000 in
theorem k_X5_find {u : Nat} {N : Nat} {Φ : (Option dc_M) → Option Value → dc_M → Prop} (x0 : Nat) (x1 : Nat) (m : dc_M) (kR : ∀  (m : dc_M), Φ (some (m)) (none) m)  {lv : ab_L} (f0 : ab_lk lv 0 = some (.ref x0)) (f1 : ab_lk lv 1 = some (.ref x1)) : dc_pv u N ab_M_X5_find 0 lv [] m (Φ (d_X5_find x0 x1 m)) := by
  refine dc_pv.mono (dc_ok (C := C_X5_find) (S := S_X5_find) CO_X5_find 400 0 [(0, .ref x0), (1, .ref x1)] lv [] m (dc_sub_cons f0 (dc_sub_cons f1 (dc_sub_nil))) ?_) (Nat.le_succ N)
  unfold d_X5_find
  refine dg_s (pc' := 1) [.ref x0] rfl (fun _ => rfl) rfl ?_
  refine dg_s (pc' := 2) [.int (0 : Int32), .ref x0] rfl (fun _ => rfl) rfl ?_
  refine dg_m (pc' := 5) (dc_wi m x0 1 (0 : Int32)) [] rfl (fun _ => rfl) rfl ?_
  refine dg_s (pc' := 6) [.ref x0] rfl (fun _ => rfl) rfl ?_
  refine dg_s (pc' := 7) [.int (0 : Int32), .ref x0] rfl (fun _ => rfl) rfl ?_
  refine dg_m (pc' := 10) (dc_wi (dc_wi m x0 1 (0 : Int32)) x0 2 (0 : Int32)) [] rfl (fun _ => rfl) rfl ?_
  refine dg_s (pc' := 11) [.ref x0] rfl (fun _ => rfl) rfl ?_
  refine dg_s (pc' := 12) [.int (0 : Int32), .ref x0] rfl (fun _ => rfl) rfl ?_
  refine dg_m (pc' := 15) (dc_wi (dc_wi (dc_wi m x0 1 (0 : Int32)) x0 2 (0 : Int32)) x0 3 (0 : Int32)) [] rfl (fun _ => rfl) rfl ?_
  refine dg_s (pc' := 16) [.ref x0] rfl (fun _ => rfl) rfl ?_
  refine dg_s (pc' := 17) [.ref x0, .ref x0] rfl (fun _ => rfl) rfl ?_
  refine dg_s (pc' := 18) [.ref x1, .ref x0, .ref x0] rfl (fun _ => rfl) rfl ?_
  refine dw_b (fun t => Φ t) (pc' := 21) (fun q1 => [.int q1.1, .ref x0]) (fun q1 => q1.2) rfl (fun _ => rfl) (fun q1 => ?_)
  refine dw_g rfl ?_
  refine dw_if (fun t => Φ t) ((Int32.toInt q1.1) = 0) [.ref x0] 36 24 rfl (fun _ => rfl) (fun c0 => ?_) (fun c0 => ?_)
  · refine dw_g rfl ?_
    refine dw_s (pc' := 37) [.int (0 : Int32), .ref x0] rfl (fun _ => rfl) ?_
    exact dw_j rfl (fun lv1 hv => k_X5_find_b37 (Φ := (fun t => Φ t)) x0 x1 (0 : Int32) x0 q1.2 (fun _b => kR _b)  (hv.1 _ rfl) (hv.2.1 _ rfl))
  · refine dw_g rfl ?_
    refine dg_s (pc' := 25) [.ref x0, .ref x0] rfl (fun _ => rfl) rfl ?_
    refine dg_s (pc' := 26) [.ref x1, .ref x0, .ref x0] rfl (fun _ => rfl) rfl ?_
    refine dw_b (fun t => Φ t) (pc' := 29) (fun q2 => [.int q2.1, .ref x0]) (fun q2 => q2.2) rfl (fun _ => rfl) (fun q2 => ?_)
    refine dw_g rfl ?_
    refine dw_if (fun t => Φ t) ((Int32.toInt q2.1) = 0) [.ref x0] 36 32 rfl (fun _ => rfl) (fun c1 => ?_) (fun c1 => ?_)
    · refine dw_g rfl ?_
      refine dw_s (pc' := 37) [.int (0 : Int32), .ref x0] rfl (fun _ => rfl) ?_
      exact dw_j rfl (fun lv1 hv => k_X5_find_b37 (Φ := (fun t => Φ t)) x0 x1 (0 : Int32) x0 q2.2 (fun _b => kR _b)  (hv.1 _ rfl) (hv.2.1 _ rfl))
    · refine dw_g rfl ?_
      refine dg_s (pc' := 33) [.int (1 : Int32), .ref x0] rfl (fun _ => rfl) rfl ?_
      refine dw_s (pc' := 37) [.int (1 : Int32), .ref x0] rfl (fun _ => rfl) ?_
      exact dw_j rfl (fun lv1 hv => k_X5_find_b37 (Φ := (fun t => Φ t)) x0 x1 (1 : Int32) x0 q2.2 (fun _b => kR _b)  (hv.1 _ rfl) (hv.2.1 _ rfl))
noncomputable def H_X5_find : dc_H := fun As m k => match As with
  | [.ref x0, .ref x1] => (d_X5_find x0 x1 m).bind (fun q => k (none) q)
  | _ => dc_kz
theorem H_X5_find_ok {u : Nat} : dc_cok u 63 H_X5_find := fun M' hG N As m k P hz hP => by
  obtain rfl : ab_M_X5_find = M' := Option.some.inj hG
  unfold H_X5_find at hP
  split at hP
  · rename_i x0 x1
    exact dc_pv.imp (k_X5_find (Φ := fun (t : Option dc_M) r m' => P (t.bind (fun q => k (none) q)) → P (k r m')) x0 x1 m (fun _ h => h) rfl rfl) (fun r m' h => h hP)
  · exact absurd hP hz
def C_X5_beginOf : List (Nat × dc_H) := [(230, H_J9_max_7cf53)]
theorem CO_X5_beginOf {u : Nat} : dc_CO u C_X5_beginOf := dc_CO_cons H_J9_max_7cf53_ok (dc_CO_nil)
def S_X5_beginOf : List (Nat × List Nat) := [(18, [0, 1, 2, 3, 4]), (88, [0, 1, 2, 3, 4])]
noncomputable def d_X5_beginOf_b88 (x0 : Nat) (x1 : Nat) (x2 : Int32) (x3 : Int32) (x4 : Int32) (s0 : Int32) (m : dc_M) : Option ((Int32 × Int32) ⊕ Int32) :=
  (if ¬ (Int32.toInt s0) = (-1) then some (Sum.inl ((d_J9_max_7cf53 x3 s0 m), (x4 + (1 : Int32)))) else some (Sum.inl ((-1 : Int32), (x4 + (1 : Int32)))))
set_option maxHeartbeats 8000000 in
theorem k_X5_beginOf_b88 {u : Nat} {N : Nat} {Φ : (Option ((Int32 × Int32) ⊕ Int32)) → Option Value → dc_M → Prop} (x0 : Nat) (x1 : Nat) (x2 : Int32) (x3 : Int32) (x4 : Int32) (s0 : Int32) (m : dc_M) (kR : ∀ (v : Int32), Φ (some (Sum.inr (v))) (some (.int v)) m) (k18 : ∀ (x3 : Int32) (x4 : Int32) (lv : ab_L), ab_lk lv 0 = some (.ref x0) → ab_lk lv 1 = some (.ref x1) → ab_lk lv 2 = some (.int x2) → ab_lk lv 3 = some (.int x3) → ab_lk lv 4 = some (.int x4) →  dc_pv u N ab_M_X5_beginOf 18 lv [] m (Φ (some (Sum.inl (x3, x4))))) {lv : ab_L} (f0 : ab_lk lv 0 = some (.ref x0)) (f1 : ab_lk lv 1 = some (.ref x1)) (f2 : ab_lk lv 2 = some (.int x2)) (f3 : ab_lk lv 3 = some (.int x3)) (f4 : ab_lk lv 4 = some (.int x4)) : dc_pv u N ab_M_X5_beginOf 88 lv [.int s0] m (Φ (d_X5_beginOf_b88 x0 x1 x2 x3 x4 s0 m)) := by
  refine dc_pv.mono (dc_ok (C := C_X5_beginOf) (S := S_X5_beginOf) CO_X5_beginOf 400 88 [(0, .ref x0), (1, .ref x1), (2, .int x2), (3, .int x3), (4, .int x4)] lv [.int s0] m (dc_sub_cons f0 (dc_sub_cons f1 (dc_sub_cons f2 (dc_sub_cons f3 (dc_sub_cons f4 (dc_sub_nil)))))) ?_) (Nat.le_succ N)
  unfold d_X5_beginOf_b88
  refine dg_L (pc' := 90) [(5, .int s0), (0, .ref x0), (1, .ref x1), (2, .int x2), (3, .int x3), (4, .int x4)] [] rfl (fun _ => rfl) rfl ?_
  refine dg_s (pc' := 92) [.int s0] rfl (fun _ => rfl) rfl ?_
  refine dg_s (pc' := 93) [.int (-1 : Int32), .int s0] rfl (fun _ => rfl) rfl ?_
  refine dw_if (fun t => Φ t) (¬ (Int32.toInt s0) = (-1)) [] 100 96 rfl (fun _ => rfl) (fun c0 => ?_) (fun c0 => ?_)
  · refine dw_g rfl ?_
    refine dg_s (pc' := 101) [.int x3] rfl (fun _ => rfl) rfl ?_
    refine dg_s (pc' := 103) [.int s0, .int x3] rfl (fun _ => rfl) rfl ?_
    refine dg_s (pc' := 106) [.int (d_J9_max_7cf53 x3 s0 m)] rfl (fun _ => rfl) rfl ?_
    refine dg_L (pc' := 107) [(3, .int (d_J9_max_7cf53 x3 s0 m)), (5, .int s0), (0, .ref x0), (1, .ref x1), (2, .int x2), (4, .int x4)] [] rfl (fun _ => rfl) rfl ?_
    refine dg_L (pc' := 110) [(4, .int (x4 + (1 : Int32))), (3, .int (d_J9_max_7cf53 x3 s0 m)), (5, .int s0), (0, .ref x0), (1, .ref x1), (2, .int x2)] [] rfl (fun _ => rfl) rfl ?_
    refine dw_s (pc' := 18) [] rfl (fun _ => rfl) ?_
    exact dw_j rfl (fun lv1 hv => k18 (d_J9_max_7cf53 x3 s0 m) (x4 + (1 : Int32)) lv1 (hv.1 _ rfl) (hv.2.1 _ rfl) (hv.2.2.1 _ rfl) (hv.2.2.2.1 _ rfl) (hv.2.2.2.2.1 _ rfl))
  · refine dw_g rfl ?_
    refine dg_s (pc' := 97) [.int (-1 : Int32)] rfl (fun _ => rfl) rfl ?_
    refine dg_s (pc' := 106) [.int (-1 : Int32)] rfl (fun _ => rfl) rfl ?_
    refine dg_L (pc' := 107) [(3, .int (-1 : Int32)), (5, .int s0), (0, .ref x0), (1, .ref x1), (2, .int x2), (4, .int x4)] [] rfl (fun _ => rfl) rfl ?_
    refine dg_L (pc' := 110) [(4, .int (x4 + (1 : Int32))), (3, .int (-1 : Int32)), (5, .int s0), (0, .ref x0), (1, .ref x1), (2, .int x2)] [] rfl (fun _ => rfl) rfl ?_
    refine dw_s (pc' := 18) [] rfl (fun _ => rfl) ?_
    exact dw_j rfl (fun lv1 hv => k18 (-1 : Int32) (x4 + (1 : Int32)) lv1 (hv.1 _ rfl) (hv.2.1 _ rfl) (hv.2.2.1 _ rfl) (hv.2.2.2.1 _ rfl) (hv.2.2.2.2.1 _ rfl))
noncomputable def d_X5_beginOf_l18b (x0 : Nat) (x1 : Nat) (x2 : Int32) (x3 : Int32) (x4 : Int32) (m : dc_M) : Option ((Int32 × Int32) ⊕ Int32) :=
  (if (Int32.toInt (m.1 x1 2)) ≤ (Int32.toInt x4) then some (Sum.inr (x3)) else (if (Int32.toInt x3) = (-1) then some (Sum.inr (x3)) else (if ¬ (Int32.toInt (((m.1 (x1 + 6) (Int32.toNatClampNeg x2)) >>> (x4 &&& 31)) &&& (1 : Int32))) = 0 then (if (Int32.toInt (((m.1 x1 13) >>> (x4 &&& 31)) &&& (1 : Int32))) = 0 then (d_X5_beginOf_b88 x0 x1 x2 x3 x4 (m.1 (m.2.2.1 x0 8) (Int32.toNatClampNeg (m.1 (x0 + 1) (Int32.toNatClampNeg x4)))) m) else (d_X5_beginOf_b88 x0 x1 x2 x3 x4 (m.1 (m.2.2.1 x0 9) (Int32.toNatClampNeg (m.1 (x0 + 1) (Int32.toNatClampNeg x4)))) m)) else some (Sum.inl (x3, (x4 + (1 : Int32)))))))
noncomputable def d_X5_beginOf_l18s (x0 : Nat) (x1 : Nat) (x2 : Int32) (m : dc_M) : (Int32 × Int32) → Option ((Int32 × Int32) ⊕ Int32) := fun s => d_X5_beginOf_l18b x0 x1 x2 s.1 s.2 m
noncomputable def d_X5_beginOf_l18 (x0 : Nat) (x1 : Nat) (x2 : Int32) (x3 : Int32) (x4 : Int32) (m : dc_M) : Option Int32 := dc_lp (d_X5_beginOf_l18s x0 x1 x2 m) (x3, x4)
set_option maxHeartbeats 8000000 in
theorem k_X5_beginOf_l18 {u : Nat} {Φ : (Option Int32) → Option Value → dc_M → Prop} (x0 : Nat) (x1 : Nat) (x2 : Int32) (m : dc_M) (kR : ∀ (v : Int32), Φ (some (v)) (some (.int v)) m) : ∀ (N : Nat), ∀ (x3 : Int32) (x4 : Int32) (lv : ab_L), ab_lk lv 0 = some (.ref x0) → ab_lk lv 1 = some (.ref x1) → ab_lk lv 2 = some (.int x2) → ab_lk lv 3 = some (.int x3) → ab_lk lv 4 = some (.int x4) → dc_pv u N ab_M_X5_beginOf 18 lv [] m (Φ (d_X5_beginOf_l18 x0 x1 x2 x3 x4 m)) := by
  intro N
  induction N with
  | zero => intros; exact dc_pv_zero
  | succ N ih =>
    intro x3 x4 lv f0 f1 f2 f3 f4
    refine dc_ok (C := C_X5_beginOf) (S := S_X5_beginOf) CO_X5_beginOf 400 18 [(0, .ref x0), (1, .ref x1), (2, .int x2), (3, .int x3), (4, .int x4)] lv [] m (dc_sub_cons f0 (dc_sub_cons f1 (dc_sub_cons f2 (dc_sub_cons f3 (dc_sub_cons f4 (dc_sub_nil)))))) ?_
    unfold d_X5_beginOf_l18
    rw [dc_lp_eq]
    show (fun t x => dc_lf u N ab_M_X5_beginOf (Φ (Option.bind t (dc_bk (d_X5_beginOf_l18s x0 x1 x2 m)))) x) (d_X5_beginOf_l18b x0 x1 x2 x3 x4 m) _
    dsimp only
    unfold d_X5_beginOf_l18b
    refine dg_s (pc' := 20) [.int x4] rfl (fun _ => rfl) rfl ?_
    refine dg_s (pc' := 21) [.ref x1, .int x4] rfl (fun _ => rfl) rfl ?_
    refine dg_s (pc' := 24) [.int (m.1 x1 2), .int x4] rfl (fun _ => rfl) rfl ?_
    refine dw_if (fun t => Φ (Option.bind t (dc_bk (d_X5_beginOf_l18s x0 x1 x2 m)))) ((Int32.toInt (m.1 x1 2)) ≤ (Int32.toInt x4)) [] 113 27 rfl (fun _ => rfl) (fun c0 => ?_) (fun c0 => ?_)
    · refine dw_g rfl ?_
      refine dg_s (pc' := 114) [.int x3] rfl (fun _ => rfl) rfl ?_
      exact dw_r (some (.inl (some (.int x3), m))) rfl (fun _ => rfl) (kR _)
    · refine dw_g rfl ?_
      refine dg_s (pc' := 28) [.int x3] rfl (fun _ => rfl) rfl ?_
      refine dg_s (pc' := 29) [.int (-1 : Int32), .int x3] rfl (fun _ => rfl) rfl ?_
      refine dw_if (fun t => Φ (Option.bind t (dc_bk (d_X5_beginOf_l18s x0 x1 x2 m)))) ((Int32.toInt x3) = (-1)) [] 113 32 rfl (fun _ => rfl) (fun c1 => ?_) (fun c1 => ?_)
      · refine dw_g rfl ?_
        refine dg_s (pc' := 114) [.int x3] rfl (fun _ => rfl) rfl ?_
        exact dw_r (some (.inl (some (.int x3), m))) rfl (fun _ => rfl) (kR _)
      · refine dw_g rfl ?_
        refine dg_s (pc' := 33) [.ref x1] rfl (fun _ => rfl) rfl ?_
        refine dg_s (pc' := 36) [.ref (x1 + 6)] rfl (fun _ => rfl) rfl ?_
        refine dg_s (pc' := 37) [.int x2, .ref (x1 + 6)] rfl (fun _ => rfl) rfl ?_
        refine dg_s (pc' := 38) [.int (m.1 (x1 + 6) (Int32.toNatClampNeg x2))] rfl (fun _ => rfl) rfl ?_
        refine dg_s (pc' := 40) [.int x4, .int (m.1 (x1 + 6) (Int32.toNatClampNeg x2))] rfl (fun _ => rfl) rfl ?_
        refine dg_s (pc' := 41) [.int ((m.1 (x1 + 6) (Int32.toNatClampNeg x2)) >>> (x4 &&& 31))] rfl (fun _ => rfl) rfl ?_
        refine dg_s (pc' := 42) [.int (1 : Int32), .int ((m.1 (x1 + 6) (Int32.toNatClampNeg x2)) >>> (x4 &&& 31))] rfl (fun _ => rfl) rfl ?_
        refine dg_s (pc' := 43) [.int (((m.1 (x1 + 6) (Int32.toNatClampNeg x2)) >>> (x4 &&& 31)) &&& (1 : Int32))] rfl (fun _ => rfl) rfl ?_
        refine dw_if (fun t => Φ (Option.bind t (dc_bk (d_X5_beginOf_l18s x0 x1 x2 m)))) (¬ (Int32.toInt (((m.1 (x1 + 6) (Int32.toNatClampNeg x2)) >>> (x4 &&& 31)) &&& (1 : Int32))) = 0) [] 49 46 rfl (fun _ => rfl) (fun c2 => ?_) (fun c2 => ?_)
        · refine dw_g rfl ?_
          refine dg_s (pc' := 50) [.ref x1] rfl (fun _ => rfl) rfl ?_
          refine dg_s (pc' := 53) [.int (m.1 x1 13)] rfl (fun _ => rfl) rfl ?_
          refine dg_s (pc' := 55) [.int x4, .int (m.1 x1 13)] rfl (fun _ => rfl) rfl ?_
          refine dg_s (pc' := 56) [.int ((m.1 x1 13) >>> (x4 &&& 31))] rfl (fun _ => rfl) rfl ?_
          refine dg_s (pc' := 57) [.int (1 : Int32), .int ((m.1 x1 13) >>> (x4 &&& 31))] rfl (fun _ => rfl) rfl ?_
          refine dg_s (pc' := 58) [.int (((m.1 x1 13) >>> (x4 &&& 31)) &&& (1 : Int32))] rfl (fun _ => rfl) rfl ?_
          refine dw_if (fun t => Φ (Option.bind t (dc_bk (d_X5_beginOf_l18s x0 x1 x2 m)))) ((Int32.toInt (((m.1 x1 13) >>> (x4 &&& 31)) &&& (1 : Int32))) = 0) [] 76 61 rfl (fun _ => rfl) (fun c3 => ?_) (fun c3 => ?_)
          · refine dw_g rfl ?_
            refine dg_s (pc' := 77) [.ref x0] rfl (fun _ => rfl) rfl ?_
            refine dg_s (pc' := 80) [.ref (m.2.2.1 x0 8)] rfl (fun _ => rfl) rfl ?_
            refine dg_s (pc' := 81) [.ref x0, .ref (m.2.2.1 x0 8)] rfl (fun _ => rfl) rfl ?_
            refine dg_s (pc' := 84) [.ref (x0 + 1), .ref (m.2.2.1 x0 8)] rfl (fun _ => rfl) rfl ?_
            refine dg_s (pc' := 86) [.int x4, .ref (x0 + 1), .ref (m.2.2.1 x0 8)] rfl (fun _ => rfl) rfl ?_
            refine dg_s (pc' := 87) [.int (m.1 (x0 + 1) (Int32.toNatClampNeg x4)), .ref (m.2.2.1 x0 8)] rfl (fun _ => rfl) rfl ?_
            refine dw_s (pc' := 88) [.int (m.1 (m.2.2.1 x0 8) (Int32.toNatClampNeg (m.1 (x0 + 1) (Int32.toNatClampNeg x4))))] rfl (fun _ => rfl) ?_
            exact dw_j rfl (fun lv1 hv => k_X5_beginOf_b88 (Φ := (fun t => Φ (Option.bind t (dc_bk (d_X5_beginOf_l18s x0 x1 x2 m))))) x0 x1 x2 x3 x4 (m.1 (m.2.2.1 x0 8) (Int32.toNatClampNeg (m.1 (x0 + 1) (Int32.toNatClampNeg x4)))) m (fun _a  => kR _a) ih (hv.1 _ rfl) (hv.2.1 _ rfl) (hv.2.2.1 _ rfl) (hv.2.2.2.1 _ rfl) (hv.2.2.2.2.1 _ rfl))
          · refine dw_g rfl ?_
            refine dg_s (pc' := 62) [.ref x0] rfl (fun _ => rfl) rfl ?_
            refine dg_s (pc' := 65) [.ref (m.2.2.1 x0 9)] rfl (fun _ => rfl) rfl ?_
            refine dg_s (pc' := 66) [.ref x0, .ref (m.2.2.1 x0 9)] rfl (fun _ => rfl) rfl ?_
            refine dg_s (pc' := 69) [.ref (x0 + 1), .ref (m.2.2.1 x0 9)] rfl (fun _ => rfl) rfl ?_
            refine dg_s (pc' := 71) [.int x4, .ref (x0 + 1), .ref (m.2.2.1 x0 9)] rfl (fun _ => rfl) rfl ?_
            refine dg_s (pc' := 72) [.int (m.1 (x0 + 1) (Int32.toNatClampNeg x4)), .ref (m.2.2.1 x0 9)] rfl (fun _ => rfl) rfl ?_
            refine dg_s (pc' := 73) [.int (m.1 (m.2.2.1 x0 9) (Int32.toNatClampNeg (m.1 (x0 + 1) (Int32.toNatClampNeg x4))))] rfl (fun _ => rfl) rfl ?_
            refine dw_s (pc' := 88) [.int (m.1 (m.2.2.1 x0 9) (Int32.toNatClampNeg (m.1 (x0 + 1) (Int32.toNatClampNeg x4))))] rfl (fun _ => rfl) ?_
            exact dw_j rfl (fun lv1 hv => k_X5_beginOf_b88 (Φ := (fun t => Φ (Option.bind t (dc_bk (d_X5_beginOf_l18s x0 x1 x2 m))))) x0 x1 x2 x3 x4 (m.1 (m.2.2.1 x0 9) (Int32.toNatClampNeg (m.1 (x0 + 1) (Int32.toNatClampNeg x4)))) m (fun _a  => kR _a) ih (hv.1 _ rfl) (hv.2.1 _ rfl) (hv.2.2.1 _ rfl) (hv.2.2.2.1 _ rfl) (hv.2.2.2.2.1 _ rfl))
        · refine dw_g rfl ?_
          refine dg_s (pc' := 107) [] rfl (fun _ => rfl) rfl ?_
          refine dg_L (pc' := 110) [(4, .int (x4 + (1 : Int32))), (0, .ref x0), (1, .ref x1), (2, .int x2), (3, .int x3)] [] rfl (fun _ => rfl) rfl ?_
          refine dw_s (pc' := 18) [] rfl (fun _ => rfl) ?_
          exact dw_j rfl (fun lv1 hv => ih x3 (x4 + (1 : Int32)) lv1 (hv.1 _ rfl) (hv.2.1 _ rfl) (hv.2.2.1 _ rfl) (hv.2.2.2.1 _ rfl) (hv.2.2.2.2.1 _ rfl))
noncomputable def d_X5_beginOf (x0 : Nat) (x1 : Nat) (x2 : Int32) (m : dc_M) : Option Int32 :=
  (if ¬ (Int32.toInt (m.1 (x1 + 6) (Int32.toNatClampNeg x2))) = 0 then (d_X5_beginOf_l18 x0 x1 x2 (0 : Int32) (0 : Int32) m) else (d_X5_beginOf_l18 x0 x1 x2 (-1 : Int32) (0 : Int32) m))
set_option maxHeartbeats 8000000 in
theorem k_X5_beginOf {u : Nat} {N : Nat} {Φ : (Option Int32) → Option Value → dc_M → Prop} (x0 : Nat) (x1 : Nat) (x2 : Int32) (m : dc_M) (kR : ∀ (v : Int32), Φ (some (v)) (some (.int v)) m)  {lv : ab_L} (f0 : ab_lk lv 0 = some (.ref x0)) (f1 : ab_lk lv 1 = some (.ref x1)) (f2 : ab_lk lv 2 = some (.int x2)) : dc_pv u N ab_M_X5_beginOf 0 lv [] m (Φ (d_X5_beginOf x0 x1 x2 m)) := by
  refine dc_pv.mono (dc_ok (C := C_X5_beginOf) (S := S_X5_beginOf) CO_X5_beginOf 400 0 [(0, .ref x0), (1, .ref x1), (2, .int x2)] lv [] m (dc_sub_cons f0 (dc_sub_cons f1 (dc_sub_cons f2 (dc_sub_nil)))) ?_) (Nat.le_succ N)
  unfold d_X5_beginOf
  refine dg_s (pc' := 1) [.ref x1] rfl (fun _ => rfl) rfl ?_
  refine dg_s (pc' := 4) [.ref (x1 + 6)] rfl (fun _ => rfl) rfl ?_
  refine dg_s (pc' := 5) [.int x2, .ref (x1 + 6)] rfl (fun _ => rfl) rfl ?_
  refine dg_s (pc' := 6) [.int (m.1 (x1 + 6) (Int32.toNatClampNeg x2))] rfl (fun _ => rfl) rfl ?_
  refine dw_if (fun t => Φ t) (¬ (Int32.toInt (m.1 (x1 + 6) (Int32.toNatClampNeg x2))) = 0) [] 13 9 rfl (fun _ => rfl) (fun c0 => ?_) (fun c0 => ?_)
  · refine dw_g rfl ?_
    refine dg_s (pc' := 14) [.int (0 : Int32)] rfl (fun _ => rfl) rfl ?_
    refine dg_L (pc' := 15) [(3, .int (0 : Int32)), (0, .ref x0), (1, .ref x1), (2, .int x2)] [] rfl (fun _ => rfl) rfl ?_
    refine dg_s (pc' := 16) [.int (0 : Int32)] rfl (fun _ => rfl) rfl ?_
    refine dw_L (pc' := 18) [(4, .int (0 : Int32)), (3, .int (0 : Int32)), (0, .ref x0), (1, .ref x1), (2, .int x2)] [] rfl (fun _ => rfl) ?_
    exact dw_j rfl (fun lv1 hv => k_X5_beginOf_l18 (Φ := (fun t => Φ t)) x0 x1 x2 m (fun _a  => kR _a) N  (0 : Int32) (0 : Int32) lv1 (hv.1 _ rfl) (hv.2.1 _ rfl) (hv.2.2.1 _ rfl) (hv.2.2.2.1 _ rfl) (hv.2.2.2.2.1 _ rfl))
  · refine dw_g rfl ?_
    refine dg_s (pc' := 10) [.int (-1 : Int32)] rfl (fun _ => rfl) rfl ?_
    refine dg_s (pc' := 14) [.int (-1 : Int32)] rfl (fun _ => rfl) rfl ?_
    refine dg_L (pc' := 15) [(3, .int (-1 : Int32)), (0, .ref x0), (1, .ref x1), (2, .int x2)] [] rfl (fun _ => rfl) rfl ?_
    refine dg_s (pc' := 16) [.int (0 : Int32)] rfl (fun _ => rfl) rfl ?_
    refine dw_L (pc' := 18) [(4, .int (0 : Int32)), (3, .int (-1 : Int32)), (0, .ref x0), (1, .ref x1), (2, .int x2)] [] rfl (fun _ => rfl) ?_
    exact dw_j rfl (fun lv1 hv => k_X5_beginOf_l18 (Φ := (fun t => Φ t)) x0 x1 x2 m (fun _a  => kR _a) N  (-1 : Int32) (0 : Int32) lv1 (hv.1 _ rfl) (hv.2.1 _ rfl) (hv.2.2.1 _ rfl) (hv.2.2.2.1 _ rfl) (hv.2.2.2.2.1 _ rfl))
noncomputable def H_X5_beginOf : dc_H := fun As m k => match As with
  | [.ref x0, .ref x1, .int x2] => (d_X5_beginOf x0 x1 x2 m).bind (fun q => k (some (.int q)) m)
  | _ => dc_kz
theorem H_X5_beginOf_ok {u : Nat} : dc_cok u 74 H_X5_beginOf := fun M' hG N As m k P hz hP => by
  obtain rfl : ab_M_X5_beginOf = M' := Option.some.inj hG
  unfold H_X5_beginOf at hP
  split at hP
  · rename_i x0 x1 x2
    exact dc_pv.imp (k_X5_beginOf (Φ := fun (t : Option Int32) r m' => P (t.bind (fun q => k (some (.int q)) m)) → P (k r m')) x0 x1 x2 m (fun _  h => h) rfl rfl rfl) (fun r m' h => h hP)
  · exact absurd hP hz
noncomputable def C_X5_endOf : List (Nat × dc_H) := [(238, H_J7_fill_53178), (74, H_X5_beginOf), (68, H_X5_turnWays)]
theorem CO_X5_endOf {u : Nat} : dc_CO u C_X5_endOf := dc_CO_cons H_J7_fill_53178_ok (dc_CO_cons H_X5_beginOf_ok (dc_CO_cons H_X5_turnWays_ok (dc_CO_nil)))
def S_X5_endOf : List (Nat × List Nat) := [(11, [0, 1, 2, 3, 4]), (24, [0, 1, 2, 3, 4, 5]), (90, [0, 2])]
noncomputable def d_X5_endOf_b90 (x0 : Nat) (x2 : Int32) (m : dc_M) : Option (Int32 × dc_M) :=
  (if ¬ (Int32.toInt (m.1 (m.2.2.1 x0 8) (Int32.toNatClampNeg x2))) = (-1) then some (((m.1 (m.2.2.1 x0 8) (Int32.toNatClampNeg x2)), m)) else some (((-4 : Int32), m)))
set_option maxHeartbeats 8000000 in
theorem k_X5_endOf_b90 {u : Nat} {N : Nat} {Φ : (Option (Int32 × dc_M)) → Option Value → dc_M → Prop} (x0 : Nat) (x2 : Int32) (m : dc_M) (kR : ∀ (v : Int32) (m : dc_M), Φ (some ((v, m))) (some (.int v)) m)  {lv : ab_L} (f0 : ab_lk lv 0 = some (.ref x0)) (f2 : ab_lk lv 2 = some (.int x2)) : dc_pv u N ab_M_X5_endOf 90 lv [] m (Φ (d_X5_endOf_b90 x0 x2 m)) := by
  refine dc_pv.mono (dc_ok (C := C_X5_endOf) (S := S_X5_endOf) CO_X5_endOf 400 90 [(0, .ref x0), (2, .int x2)] lv [] m (dc_sub_cons f0 (dc_sub_cons f2 (dc_sub_nil))) ?_) (Nat.le_succ N)
  unfold d_X5_endOf_b90
  refine dg_s (pc' := 91) [.ref x0] rfl (fun _ => rfl) rfl ?_
  refine dg_s (pc' := 94) [.ref (m.2.2.1 x0 8)] rfl (fun _ => rfl) rfl ?_
  refine dg_s (pc' := 95) [.int x2, .ref (m.2.2.1 x0 8)] rfl (fun _ => rfl) rfl ?_
  refine dg_s (pc' := 96) [.int (m.1 (m.2.2.1 x0 8) (Int32.toNatClampNeg x2))] rfl (fun _ => rfl) rfl ?_
  refine dg_s (pc' := 97) [.int (-1 : Int32), .int (m.1 (m.2.2.1 x0 8) (Int32.toNatClampNeg x2))] rfl (fun _ => rfl) rfl ?_
  refine dw_if (fun t => Φ t) (¬ (Int32.toInt (m.1 (m.2.2.1 x0 8) (Int32.toNatClampNeg x2))) = (-1)) [] 105 100 rfl (fun _ => rfl) (fun c0 => ?_) (fun c0 => ?_)
  · refine dw_g rfl ?_
    refine dg_s (pc' := 106) [.ref x0] rfl (fun _ => rfl) rfl ?_
    refine dg_s (pc' := 109) [.ref (m.2.2.1 x0 8)] rfl (fun _ => rfl) rfl ?_
    refine dg_s (pc' := 110) [.int x2, .ref (m.2.2.1 x0 8)] rfl (fun _ => rfl) rfl ?_
    refine dg_s (pc' := 111) [.int (m.1 (m.2.2.1 x0 8) (Int32.toNatClampNeg x2))] rfl (fun _ => rfl) rfl ?_
    exact dw_r (some (.inl (some (.int (m.1 (m.2.2.1 x0 8) (Int32.toNatClampNeg x2))), m))) rfl (fun _ => rfl) (kR _ _)
  · refine dw_g rfl ?_
    refine dg_s (pc' := 102) [.int (-4 : Int32)] rfl (fun _ => rfl) rfl ?_
    refine dg_s (pc' := 111) [.int (-4 : Int32)] rfl (fun _ => rfl) rfl ?_
    exact dw_r (some (.inl (some (.int (-4 : Int32)), m))) rfl (fun _ => rfl) (kR _ _)
noncomputable def d_X5_endOf_l24b (x0 : Nat) (x1 : Nat) (x2 : Int32) (x3 : Int32) (x4 : Int32) (x5 : Int32) (m : dc_M) : Option ((Int32 × dc_M) ⊕ ((Int32 × dc_M) ⊕ (Int32 × dc_M))) :=
  (if (Int32.toInt (m.1 x0 7)) ≤ (Int32.toInt x5) then some (Sum.inr (Sum.inl ((x4 + (1 : Int32)), m))) else ((d_X5_beginOf x0 x1 (m.1 (x0 + 3) (Int32.toNatClampNeg x5)) m).bind (fun q1 => (if ¬ (Int32.toInt q1) = (-1) then some (Sum.inl ((x5 + (1 : Int32)), (dc_wi m (m.2.2.1 x0 8) (Int32.toNatClampNeg (m.1 (x0 + 3) (Int32.toNatClampNeg x5))) (q1 + (m.1 (x1 + 8) (Int32.toNatClampNeg (m.1 (x0 + 3) (Int32.toNatClampNeg x5)))))))) else some (Sum.inl ((x5 + (1 : Int32)), (dc_wi m (m.2.2.1 x0 8) (Int32.toNatClampNeg (m.1 (x0 + 3) (Int32.toNatClampNeg x5))) (-1 : Int32))))))))
noncomputable def d_X5_endOf_l24s (x0 : Nat) (x1 : Nat) (x2 : Int32) (x3 : Int32) (x4 : Int32) : (Int32 × dc_M) → Option ((Int32 × dc_M) ⊕ ((Int32 × dc_M) ⊕ (Int32 × dc_M))) := fun s => d_X5_endOf_l24b x0 x1 x2 x3 x4 s.1 s.2
noncomputable def d_X5_endOf_l24 (x0 : Nat) (x1 : Nat) (x2 : Int32) (x3 : Int32) (x4 : Int32) (x5 : Int32) (m : dc_M) : Option ((Int32 × dc_M) ⊕ (Int32 × dc_M)) := dc_lp (d_X5_endOf_l24s x0 x1 x2 x3 x4) (x5, m)
set_option maxHeartbeats 8000000 in
theorem k_X5_endOf_l24 {u : Nat} {Φ : (Option ((Int32 × dc_M) ⊕ (Int32 × dc_M))) → Option Value → dc_M → Prop} (x0 : Nat) (x1 : Nat) (x2 : Int32) (x3 : Int32) (x4 : Int32) (kR : ∀ (v : Int32) (m : dc_M), Φ (some (Sum.inr ((v, m)))) (some (.int v)) m) : ∀ (N : Nat), (∀ (x4 : Int32) (m : dc_M) (lv : ab_L), ab_lk lv 0 = some (.ref x0) → ab_lk lv 1 = some (.ref x1) → ab_lk lv 2 = some (.int x2) → ab_lk lv 3 = some (.int x3) → ab_lk lv 4 = some (.int x4) →  dc_pv u N ab_M_X5_endOf 11 lv [] m (Φ (some (Sum.inl (x4, m))))) → ∀ (x5 : Int32) (m : dc_M) (lv : ab_L), ab_lk lv 0 = some (.ref x0) → ab_lk lv 1 = some (.ref x1) → ab_lk lv 2 = some (.int x2) → ab_lk lv 3 = some (.int x3) → ab_lk lv 4 = some (.int x4) → ab_lk lv 5 = some (.int x5) → dc_pv u N ab_M_X5_endOf 24 lv [] m (Φ (d_X5_endOf_l24 x0 x1 x2 x3 x4 x5 m)) := by
  intro N
  induction N with
  | zero => intros; exact dc_pv_zero
  | succ N ih =>
    intro k11 x5 m lv f0 f1 f2 f3 f4 f5
    have k11 := fun a0 a1 a2 a3 a4 a5 a6 a7 => (k11 a0 a1 a2 a3 a4 a5 a6 a7).mono (Nat.le_succ N)
    have ih := ih k11
    refine dc_ok (C := C_X5_endOf) (S := S_X5_endOf) CO_X5_endOf 400 24 [(0, .ref x0), (1, .ref x1), (2, .int x2), (3, .int x3), (4, .int x4), (5, .int x5)] lv [] m (dc_sub_cons f0 (dc_sub_cons f1 (dc_sub_cons f2 (dc_sub_cons f3 (dc_sub_cons f4 (dc_sub_cons f5 (dc_sub_nil))))))) ?_
    unfold d_X5_endOf_l24
    rw [dc_lp_eq]
    show (fun t x => dc_lf u N ab_M_X5_endOf (Φ (Option.bind t (dc_bk (d_X5_endOf_l24s x0 x1 x2 x3 x4)))) x) (d_X5_endOf_l24b x0 x1 x2 x3 x4 x5 m) _
    dsimp only
    unfold d_X5_endOf_l24b
    refine dg_s (pc' := 26) [.int x5] rfl (fun _ => rfl) rfl ?_
    refine dg_s (pc' := 27) [.ref x0, .int x5] rfl (fun _ => rfl) rfl ?_
    refine dg_s (pc' := 30) [.int (m.1 x0 7), .int x5] rfl (fun _ => rfl) rfl ?_
    refine dw_if (fun t => Φ (Option.bind t (dc_bk (d_X5_endOf_l24s x0 x1 x2 x3 x4)))) ((Int32.toInt (m.1 x0 7)) ≤ (Int32.toInt x5)) [] 84 33 rfl (fun _ => rfl) (fun c0 => ?_) (fun c0 => ?_)
    · refine dw_g rfl ?_
      refine dg_L (pc' := 87) [(4, .int (x4 + (1 : Int32))), (0, .ref x0), (1, .ref x1), (2, .int x2), (3, .int x3), (5, .int x5)] [] rfl (fun _ => rfl) rfl ?_
      refine dw_s (pc' := 11) [] rfl (fun _ => rfl) ?_
      exact dw_j rfl (fun lv1 hv => k11 (x4 + (1 : Int32)) m lv1 (hv.1 _ rfl) (hv.2.1 _ rfl) (hv.2.2.1 _ rfl) (hv.2.2.2.1 _ rfl) (hv.2.2.2.2.1 _ rfl))
    · refine dw_g rfl ?_
      refine dg_s (pc' := 34) [.ref x0] rfl (fun _ => rfl) rfl ?_
      refine dg_s (pc' := 37) [.ref (x0 + 3)] rfl (fun _ => rfl) rfl ?_
      refine dg_s (pc' := 39) [.int x5, .ref (x0 + 3)] rfl (fun _ => rfl) rfl ?_
      refine dg_s (pc' := 40) [.int (m.1 (x0 + 3) (Int32.toNatClampNeg x5))] rfl (fun _ => rfl) rfl ?_
      refine dg_L (pc' := 42) [(6, .int (m.1 (x0 + 3) (Int32.toNatClampNeg x5))), (0, .ref x0), (1, .ref x1), (2, .int x2), (3, .int x3), (4, .int x4), (5, .int x5)] [] rfl (fun _ => rfl) rfl ?_
      refine dg_s (pc' := 43) [.ref x0] rfl (fun _ => rfl) rfl ?_
      refine dg_s (pc' := 44) [.ref x1, .ref x0] rfl (fun _ => rfl) rfl ?_
      refine dg_s (pc' := 46) [.int (m.1 (x0 + 3) (Int32.toNatClampNeg x5)), .ref x1, .ref x0] rfl (fun _ => rfl) rfl ?_
      refine dw_b (fun t => Φ (Option.bind t (dc_bk (d_X5_endOf_l24s x0 x1 x2 x3 x4)))) (pc' := 49) (fun q1 => [.int q1]) (fun q1 => m) rfl (fun _ => rfl) (fun q1 => ?_)
      refine dw_g rfl ?_
      refine dg_L (pc' := 51) [(7, .int q1), (6, .int (m.1 (x0 + 3) (Int32.toNatClampNeg x5))), (0, .ref x0), (1, .ref x1), (2, .int x2), (3, .int x3), (4, .int x4), (5, .int x5)] [] rfl (fun _ => rfl) rfl ?_
      refine dg_s (pc' := 52) [.ref x0] rfl (fun _ => rfl) rfl ?_
      refine dg_s (pc' := 55) [.ref (m.2.2.1 x0 8)] rfl (fun _ => rfl) rfl ?_
      refine dg_s (pc' := 57) [.int (m.1 (x0 + 3) (Int32.toNatClampNeg x5)), .ref (m.2.2.1 x0 8)] rfl (fun _ => rfl) rfl ?_
      refine dg_s (pc' := 59) [.int q1, .int (m.1 (x0 + 3) (Int32.toNatClampNeg x5)), .ref (m.2.2.1 x0 8)] rfl (fun _ => rfl) rfl ?_
      refine dg_s (pc' := 60) [.int (-1 : Int32), .int q1, .int (m.1 (x0 + 3) (Int32.toNatClampNeg x5)), .ref (m.2.2.1 x0 8)] rfl (fun _ => rfl) rfl ?_
      refine dw_if (fun t => Φ (Option.bind t (dc_bk (d_X5_endOf_l24s x0 x1 x2 x3 x4)))) (¬ (Int32.toInt q1) = (-1)) [.int (m.1 (x0 + 3) (Int32.toNatClampNeg x5)), .ref (m.2.2.1 x0 8)] 67 63 rfl (fun _ => rfl) (fun c1 => ?_) (fun c1 => ?_)
      · refine dw_g rfl ?_
        refine dg_s (pc' := 69) [.int q1, .int (m.1 (x0 + 3) (Int32.toNatClampNeg x5)), .ref (m.2.2.1 x0 8)] rfl (fun _ => rfl) rfl ?_
        refine dg_s (pc' := 70) [.ref x1, .int q1, .int (m.1 (x0 + 3) (Int32.toNatClampNeg x5)), .ref (m.2.2.1 x0 8)] rfl (fun _ => rfl) rfl ?_
        refine dg_s (pc' := 73) [.ref (x1 + 8), .int q1, .int (m.1 (x0 + 3) (Int32.toNatClampNeg x5)), .ref (m.2.2.1 x0 8)] rfl (fun _ => rfl) rfl ?_
        refine dg_s (pc' := 75) [.int (m.1 (x0 + 3) (Int32.toNatClampNeg x5)), .ref (x1 + 8), .int q1, .int (m.1 (x0 + 3) (Int32.toNatClampNeg x5)), .ref (m.2.2.1 x0 8)] rfl (fun _ => rfl) rfl ?_
        refine dg_s (pc' := 76) [.int (m.1 (x1 + 8) (Int32.toNatClampNeg (m.1 (x0 + 3) (Int32.toNatClampNeg x5)))), .int q1, .int (m.1 (x0 + 3) (Int32.toNatClampNeg x5)), .ref (m.2.2.1 x0 8)] rfl (fun _ => rfl) rfl ?_
        refine dg_s (pc' := 77) [.int (q1 + (m.1 (x1 + 8) (Int32.toNatClampNeg (m.1 (x0 + 3) (Int32.toNatClampNeg x5))))), .int (m.1 (x0 + 3) (Int32.toNatClampNeg x5)), .ref (m.2.2.1 x0 8)] rfl (fun _ => rfl) rfl ?_
        refine dg_m (pc' := 78) (dc_wi m (m.2.2.1 x0 8) (Int32.toNatClampNeg (m.1 (x0 + 3) (Int32.toNatClampNeg x5))) (q1 + (m.1 (x1 + 8) (Int32.toNatClampNeg (m.1 (x0 + 3) (Int32.toNatClampNeg x5)))))) [] rfl (fun _ => rfl) rfl ?_
        refine dg_L (pc' := 81) [(5, .int (x5 + (1 : Int32))), (7, .int q1), (6, .int (m.1 (x0 + 3) (Int32.toNatClampNeg x5))), (0, .ref x0), (1, .ref x1), (2, .int x2), (3, .int x3), (4, .int x4)] [] rfl (fun _ => rfl) rfl ?_
        refine dw_s (pc' := 24) [] rfl (fun _ => rfl) ?_
        exact dw_j rfl (fun lv1 hv => ih (x5 + (1 : Int32)) (dc_wi m (m.2.2.1 x0 8) (Int32.toNatClampNeg (m.1 (x0 + 3) (Int32.toNatClampNeg x5))) (q1 + (m.1 (x1 + 8) (Int32.toNatClampNeg (m.1 (x0 + 3) (Int32.toNatClampNeg x5)))))) lv1 (hv.1 _ rfl) (hv.2.1 _ rfl) (hv.2.2.1 _ rfl) (hv.2.2.2.1 _ rfl) (hv.2.2.2.2.1 _ rfl) (hv.2.2.2.2.2.1 _ rfl))
      · refine dw_g rfl ?_
        refine dg_s (pc' := 64) [.int (-1 : Int32), .int (m.1 (x0 + 3) (Int32.toNatClampNeg x5)), .ref (m.2.2.1 x0 8)] rfl (fun _ => rfl) rfl ?_
        refine dg_s (pc' := 77) [.int (-1 : Int32), .int (m.1 (x0 + 3) (Int32.toNatClampNeg x5)), .ref (m.2.2.1 x0 8)] rfl (fun _ => rfl) rfl ?_
        refine dg_m (pc' := 78) (dc_wi m (m.2.2.1 x0 8) (Int32.toNatClampNeg (m.1 (x0 + 3) (Int32.toNatClampNeg x5))) (-1 : Int32)) [] rfl (fun _ => rfl) rfl ?_
        refine dg_L (pc' := 81) [(5, .int (x5 + (1 : Int32))), (7, .int q1), (6, .int (m.1 (x0 + 3) (Int32.toNatClampNeg x5))), (0, .ref x0), (1, .ref x1), (2, .int x2), (3, .int x3), (4, .int x4)] [] rfl (fun _ => rfl) rfl ?_
        refine dw_s (pc' := 24) [] rfl (fun _ => rfl) ?_
        exact dw_j rfl (fun lv1 hv => ih (x5 + (1 : Int32)) (dc_wi m (m.2.2.1 x0 8) (Int32.toNatClampNeg (m.1 (x0 + 3) (Int32.toNatClampNeg x5))) (-1 : Int32)) lv1 (hv.1 _ rfl) (hv.2.1 _ rfl) (hv.2.2.1 _ rfl) (hv.2.2.2.1 _ rfl) (hv.2.2.2.2.1 _ rfl) (hv.2.2.2.2.2.1 _ rfl))
noncomputable def d_X5_endOf_l11b (x0 : Nat) (x1 : Nat) (x2 : Int32) (x3 : Int32) (x4 : Int32) (m : dc_M) : Option ((Int32 × dc_M) ⊕ (Int32 × dc_M)) :=
  (if (Int32.toInt x3) < (Int32.toInt x4) then ((d_X5_endOf_b90 x0 x2 m).map (fun z => Sum.inr (z))) else (dc_let (d_X5_turnWays x0 m) (fun q1 => (d_X5_endOf_l24 x0 x1 x2 x3 x4 (0 : Int32) q1))))
noncomputable def d_X5_endOf_l11s (x0 : Nat) (x1 : Nat) (x2 : Int32) (x3 : Int32) : (Int32 × dc_M) → Option ((Int32 × dc_M) ⊕ (Int32 × dc_M)) := fun s => d_X5_endOf_l11b x0 x1 x2 x3 s.1 s.2
noncomputable def d_X5_endOf_l11 (x0 : Nat) (x1 : Nat) (x2 : Int32) (x3 : Int32) (x4 : Int32) (m : dc_M) : Option (Int32 × dc_M) := dc_lp (d_X5_endOf_l11s x0 x1 x2 x3) (x4, m)
set_option maxHeartbeats 8000000 in
theorem k_X5_endOf_l11 {u : Nat} {Φ : (Option (Int32 × dc_M)) → Option Value → dc_M → Prop} (x0 : Nat) (x1 : Nat) (x2 : Int32) (x3 : Int32) (kR : ∀ (v : Int32) (m : dc_M), Φ (some ((v, m))) (some (.int v)) m) : ∀ (N : Nat), ∀ (x4 : Int32) (m : dc_M) (lv : ab_L), ab_lk lv 0 = some (.ref x0) → ab_lk lv 1 = some (.ref x1) → ab_lk lv 2 = some (.int x2) → ab_lk lv 3 = some (.int x3) → ab_lk lv 4 = some (.int x4) → dc_pv u N ab_M_X5_endOf 11 lv [] m (Φ (d_X5_endOf_l11 x0 x1 x2 x3 x4 m)) := by
  intro N
  induction N with
  | zero => intros; exact dc_pv_zero
  | succ N ih =>
    intro x4 m lv f0 f1 f2 f3 f4
    refine dc_ok (C := C_X5_endOf) (S := S_X5_endOf) CO_X5_endOf 400 11 [(0, .ref x0), (1, .ref x1), (2, .int x2), (3, .int x3), (4, .int x4)] lv [] m (dc_sub_cons f0 (dc_sub_cons f1 (dc_sub_cons f2 (dc_sub_cons f3 (dc_sub_cons f4 (dc_sub_nil)))))) ?_
    unfold d_X5_endOf_l11
    rw [dc_lp_eq]
    show (fun t x => dc_lf u N ab_M_X5_endOf (Φ (Option.bind t (dc_bk (d_X5_endOf_l11s x0 x1 x2 x3)))) x) (d_X5_endOf_l11b x0 x1 x2 x3 x4 m) _
    dsimp only
    unfold d_X5_endOf_l11b
    refine dg_s (pc' := 13) [.int x4] rfl (fun _ => rfl) rfl ?_
    refine dg_s (pc' := 14) [.int x3, .int x4] rfl (fun _ => rfl) rfl ?_
    refine dw_if (fun t => Φ (Option.bind t (dc_bk (d_X5_endOf_l11s x0 x1 x2 x3)))) ((Int32.toInt x3) < (Int32.toInt x4)) [] 90 17 rfl (fun _ => rfl) (fun c0 => ?_) (fun c0 => ?_)
    · exact dw_j rfl (fun lv1 hv => k_X5_endOf_b90 (Φ := (fun t => Φ (Option.bind (t.map (fun z => Sum.inr (z))) (dc_bk (d_X5_endOf_l11s x0 x1 x2 x3))))) x0 x2 m (fun _a _b => kR _a _b)  (hv.1 _ rfl) (hv.2.1 _ rfl))
    · refine dw_g rfl ?_
      refine dg_s (pc' := 18) [.ref x0] rfl (fun _ => rfl) rfl ?_
      refine dw_l (fun t => Φ (Option.bind t (dc_bk (d_X5_endOf_l11s x0 x1 x2 x3)))) (pc' := 21) (fun q1 => []) (fun q1 => q1) rfl (fun _ => rfl) (fun q1 => ?_)
      refine dw_g rfl ?_
      refine dg_s (pc' := 22) [.int (0 : Int32)] rfl (fun _ => rfl) rfl ?_
      refine dw_L (pc' := 24) [(5, .int (0 : Int32)), (0, .ref x0), (1, .ref x1), (2, .int x2), (3, .int x3), (4, .int x4)] [] rfl (fun _ => rfl) ?_
      exact dw_j rfl (fun lv1 hv => k_X5_endOf_l24 (Φ := (fun t => Φ (Option.bind t (dc_bk (d_X5_endOf_l11s x0 x1 x2 x3))))) x0 x1 x2 x3 x4 (fun _a _b => kR _a _b) N ih (0 : Int32) q1 lv1 (hv.1 _ rfl) (hv.2.1 _ rfl) (hv.2.2.1 _ rfl) (hv.2.2.2.1 _ rfl) (hv.2.2.2.2.1 _ rfl) (hv.2.2.2.2.2.1 _ rfl))
noncomputable def d_X5_endOf (x0 : Nat) (x1 : Nat) (x2 : Int32) (x3 : Int32) (m : dc_M) : Option (Int32 × dc_M) :=
  ((d_J7_fill_53178 (m.2.2.1 x0 8) (0 : Int32) m).bind (fun q1 => (d_X5_endOf_l11 x0 x1 x2 x3 (1 : Int32) q1)))
set_option maxHeartbeats 8000000 in
theorem k_X5_endOf {u : Nat} {N : Nat} {Φ : (Option (Int32 × dc_M)) → Option Value → dc_M → Prop} (x0 : Nat) (x1 : Nat) (x2 : Int32) (x3 : Int32) (m : dc_M) (kR : ∀ (v : Int32) (m : dc_M), Φ (some ((v, m))) (some (.int v)) m)  {lv : ab_L} (f0 : ab_lk lv 0 = some (.ref x0)) (f1 : ab_lk lv 1 = some (.ref x1)) (f2 : ab_lk lv 2 = some (.int x2)) (f3 : ab_lk lv 3 = some (.int x3)) : dc_pv u N ab_M_X5_endOf 0 lv [] m (Φ (d_X5_endOf x0 x1 x2 x3 m)) := by
  refine dc_pv.mono (dc_ok (C := C_X5_endOf) (S := S_X5_endOf) CO_X5_endOf 400 0 [(0, .ref x0), (1, .ref x1), (2, .int x2), (3, .int x3)] lv [] m (dc_sub_cons f0 (dc_sub_cons f1 (dc_sub_cons f2 (dc_sub_cons f3 (dc_sub_nil))))) ?_) (Nat.le_succ N)
  unfold d_X5_endOf
  refine dg_s (pc' := 1) [.ref x0] rfl (fun _ => rfl) rfl ?_
  refine dg_s (pc' := 4) [.ref (m.2.2.1 x0 8)] rfl (fun _ => rfl) rfl ?_
  refine dg_s (pc' := 5) [.int (0 : Int32), .ref (m.2.2.1 x0 8)] rfl (fun _ => rfl) rfl ?_
  refine dw_b (fun t => Φ t) (pc' := 8) (fun q1 => []) (fun q1 => q1) rfl (fun _ => rfl) (fun q1 => ?_)
  refine dw_g rfl ?_
  refine dg_s (pc' := 9) [.int (1 : Int32)] rfl (fun _ => rfl) rfl ?_
  refine dw_L (pc' := 11) [(4, .int (1 : Int32)), (0, .ref x0), (1, .ref x1), (2, .int x2), (3, .int x3)] [] rfl (fun _ => rfl) ?_
  exact dw_j rfl (fun lv1 hv => k_X5_endOf_l11 (Φ := (fun t => Φ t)) x0 x1 x2 x3 (fun _a _b => kR _a _b) N  (1 : Int32) q1 lv1 (hv.1 _ rfl) (hv.2.1 _ rfl) (hv.2.2.1 _ rfl) (hv.2.2.2.1 _ rfl) (hv.2.2.2.2.1 _ rfl))
noncomputable def H_X5_endOf : dc_H := fun As m k => match As with
  | [.ref x0, .ref x1, .int x2, .int x3] => (d_X5_endOf x0 x1 x2 x3 m).bind (fun q => k (some (.int q.1)) q.2)
  | _ => dc_kz
theorem H_X5_endOf_ok {u : Nat} : dc_cok u 73 H_X5_endOf := fun M' hG N As m k P hz hP => by
  obtain rfl : ab_M_X5_endOf = M' := Option.some.inj hG
  unfold H_X5_endOf at hP
  split at hP
  · rename_i x0 x1 x2 x3
    exact dc_pv.imp (k_X5_endOf (Φ := fun (t : Option (Int32 × dc_M)) r m' => P (t.bind (fun q => k (some (.int q.1)) q.2)) → P (k r m')) x0 x1 x2 x3 m (fun _ _ h => h) rfl rfl rfl rfl) (fun r m' h => h hP)
  · exact absurd hP hz
def C_X6_isNothing : List (Nat × dc_H) := []
theorem CO_X6_isNothing {u : Nat} : dc_CO u C_X6_isNothing := dc_CO_nil
def S_X6_isNothing : List (Nat × List Nat) := []
def d_X6_isNothing (x0 : Nat) (m : dc_M) : Int32 :=
  (if 0 ≤ (Int32.toInt (m.1 x0 0)) then (0 : Int32) else (1 : Int32))
set_option maxHeartbeats 8000000 in
theorem k_X6_isNothing {u : Nat} {N : Nat} {Φ : Int32 → Option Value → dc_M → Prop} (x0 : Nat) (m : dc_M) (kR : ∀ (v : Int32), Φ (v) (some (.int v)) m)  {lv : ab_L} (f0 : ab_lk lv 0 = some (.ref x0)) : dc_pv u N ab_M_X6_isNothing 0 lv [] m (Φ (d_X6_isNothing x0 m)) := by
  refine dc_pv.mono (dc_ok (C := C_X6_isNothing) (S := S_X6_isNothing) CO_X6_isNothing 400 0 [(0, .ref x0)] lv [] m (dc_sub_cons f0 (dc_sub_nil)) ?_) (Nat.le_succ N)
  unfold d_X6_isNothing
  refine dg_s (pc' := 1) [.ref x0] rfl (fun _ => rfl) rfl ?_
  refine dg_s (pc' := 4) [.int (m.1 x0 0)] rfl (fun _ => rfl) rfl ?_
  refine dw_if (fun t => Φ t) (0 ≤ (Int32.toInt (m.1 x0 0))) [] 11 7 rfl (fun _ => rfl) (fun c0 => ?_) (fun c0 => ?_)
  · refine dw_g rfl ?_
    refine dg_s (pc' := 12) [.int (0 : Int32)] rfl (fun _ => rfl) rfl ?_
    exact dw_r (some (.inl (some (.int (0 : Int32)), m))) rfl (fun _ => rfl) (kR _)
  · refine dw_g rfl ?_
    refine dg_s (pc' := 8) [.int (1 : Int32)] rfl (fun _ => rfl) rfl ?_
    refine dg_s (pc' := 12) [.int (1 : Int32)] rfl (fun _ => rfl) rfl ?_
    exact dw_r (some (.inl (some (.int (1 : Int32)), m))) rfl (fun _ => rfl) (kR _)
def H_X6_isNothing : dc_H := fun As m k => match As with
  | [.ref x0] => k (some (.int (d_X6_isNothing x0 m))) m
  | _ => dc_kz
theorem H_X6_isNothing_ok {u : Nat} : dc_cok u 76 H_X6_isNothing := fun M' hG N As m k P hz hP => by
  obtain rfl : ab_M_X6_isNothing = M' := Option.some.inj hG
  unfold H_X6_isNothing at hP
  split at hP
  · rename_i x0
    exact dc_pv.imp (k_X6_isNothing (Φ := fun (t : Int32) r m' => P (k (some (.int t)) m) → P (k r m')) x0 m (fun _  h => h) rfl) (fun r m' h => h hP)
  · exact absurd hP hz
noncomputable def C_X6_renew : List (Nat × dc_H) := [(238, H_J7_fill_53178)]
theorem CO_X6_renew {u : Nat} : dc_CO u C_X6_renew := dc_CO_cons H_J7_fill_53178_ok (dc_CO_nil)
def S_X6_renew : List (Nat × List Nat) := []
noncomputable def d_X6_renew (x0 : Nat) (x1 : Int32) (x2 : Int32) (m : dc_M) : Option dc_M :=
  ((d_J7_fill_53178 (x0 + 1) (0 : Int32) (dc_wi (dc_wi m x0 2 x1) x0 0 x2)).bind (fun q1 => some (q1)))
set_option maxHeartbeats 8000000 in
theorem k_X6_renew {u : Nat} {N : Nat} {Φ : (Option dc_M) → Option Value → dc_M → Prop} (x0 : Nat) (x1 : Int32) (x2 : Int32) (m : dc_M) (kR : ∀  (m : dc_M), Φ (some (m)) (none) m)  {lv : ab_L} (f0 : ab_lk lv 0 = some (.ref x0)) (f1 : ab_lk lv 1 = some (.int x1)) (f2 : ab_lk lv 2 = some (.int x2)) : dc_pv u N ab_M_X6_renew 0 lv [] m (Φ (d_X6_renew x0 x1 x2 m)) := by
  refine dc_pv.mono (dc_ok (C := C_X6_renew) (S := S_X6_renew) CO_X6_renew 400 0 [(0, .ref x0), (1, .int x1), (2, .int x2)] lv [] m (dc_sub_cons f0 (dc_sub_cons f1 (dc_sub_cons f2 (dc_sub_nil)))) ?_) (Nat.le_succ N)
  unfold d_X6_renew
  refine dg_s (pc' := 1) [.ref x0] rfl (fun _ => rfl) rfl ?_
  refine dg_s (pc' := 2) [.int x1, .ref x0] rfl (fun _ => rfl) rfl ?_
  refine dg_m (pc' := 5) (dc_wi m x0 2 x1) [] rfl (fun _ => rfl) rfl ?_
  refine dg_s (pc' := 6) [.ref x0] rfl (fun _ => rfl) rfl ?_
  refine dg_s (pc' := 7) [.int x2, .ref x0] rfl (fun _ => rfl) rfl ?_
  refine dg_m (pc' := 10) (dc_wi (dc_wi m x0 2 x1) x0 0 x2) [] rfl (fun _ => rfl) rfl ?_
  refine dg_s (pc' := 11) [.ref x0] rfl (fun _ => rfl) rfl ?_
  refine dg_s (pc' := 14) [.ref (x0 + 1)] rfl (fun _ => rfl) rfl ?_
  refine dg_s (pc' := 15) [.int (0 : Int32), .ref (x0 + 1)] rfl (fun _ => rfl) rfl ?_
  refine dw_b (fun t => Φ t) (pc' := 18) (fun q1 => []) (fun q1 => q1) rfl (fun _ => rfl) (fun q1 => ?_)
  refine dw_g rfl ?_
  exact dw_r (some (.inl (none, q1))) rfl (fun _ => rfl) (kR _)
noncomputable def H_X6_renew : dc_H := fun As m k => match As with
  | [.ref x0, .int x1, .int x2] => (d_X6_renew x0 x1 x2 m).bind (fun q => k (none) q)
  | _ => dc_kz
theorem H_X6_renew_ok {u : Nat} : dc_cok u 77 H_X6_renew := fun M' hG N As m k P hz hP => by
  obtain rfl : ab_M_X6_renew = M' := Option.some.inj hG
  unfold H_X6_renew at hP
  split at hP
  · rename_i x0 x1 x2
    exact dc_pv.imp (k_X6_renew (Φ := fun (t : Option dc_M) r m' => P (t.bind (fun q => k (none) q)) → P (k r m')) x0 x1 x2 m (fun _ h => h) rfl rfl rfl) (fun r m' h => h hP)
  · exact absurd hP hz
def C_X6_faultAs : List (Nat × dc_H) := [(76, H_X6_isNothing)]
theorem CO_X6_faultAs {u : Nat} : dc_CO u C_X6_faultAs := dc_CO_cons H_X6_isNothing_ok (dc_CO_nil)
def S_X6_faultAs : List (Nat × List Nat) := []
def d_X6_faultAs (x0 : Nat) (x1 : Int32) (m : dc_M) : Int32 :=
  (if (Int32.toInt (d_X6_isNothing x0 m)) = 0 then (if ¬ (Int32.toInt x1) = (Int32.toInt (m.1 x0 2)) then (3 : Int32) else (0 : Int32)) else (1 : Int32))
set_option maxHeartbeats 8000000 in
theorem k_X6_faultAs {u : Nat} {N : Nat} {Φ : Int32 → Option Value → dc_M → Prop} (x0 : Nat) (x1 : Int32) (m : dc_M) (kR : ∀ (v : Int32), Φ (v) (some (.int v)) m)  {lv : ab_L} (f0 : ab_lk lv 0 = some (.ref x0)) (f1 : ab_lk lv 1 = some (.int x1)) : dc_pv u N ab_M_X6_faultAs 0 lv [] m (Φ (d_X6_faultAs x0 x1 m)) := by
  refine dc_pv.mono (dc_ok (C := C_X6_faultAs) (S := S_X6_faultAs) CO_X6_faultAs 400 0 [(0, .ref x0), (1, .int x1)] lv [] m (dc_sub_cons f0 (dc_sub_cons f1 (dc_sub_nil))) ?_) (Nat.le_succ N)
  unfold d_X6_faultAs
  refine dg_s (pc' := 1) [.ref x0] rfl (fun _ => rfl) rfl ?_
  refine dg_s (pc' := 4) [.int (d_X6_isNothing x0 m)] rfl (fun _ => rfl) rfl ?_
  refine dw_if (fun t => Φ t) ((Int32.toInt (d_X6_isNothing x0 m)) = 0) [] 9 7 rfl (fun _ => rfl) (fun c0 => ?_) (fun c0 => ?_)
  · refine dw_g rfl ?_
    refine dg_s (pc' := 10) [.int x1] rfl (fun _ => rfl) rfl ?_
    refine dg_s (pc' := 11) [.ref x0, .int x1] rfl (fun _ => rfl) rfl ?_
    refine dg_s (pc' := 14) [.int (m.1 x0 2), .int x1] rfl (fun _ => rfl) rfl ?_
    refine dw_if (fun t => Φ t) (¬ (Int32.toInt x1) = (Int32.toInt (m.1 x0 2))) [] 21 17 rfl (fun _ => rfl) (fun c1 => ?_) (fun c1 => ?_)
    · refine dw_g rfl ?_
      refine dg_s (pc' := 22) [.int (3 : Int32)] rfl (fun _ => rfl) rfl ?_
      exact dw_r (some (.inl (some (.int (3 : Int32)), m))) rfl (fun _ => rfl) (kR _)
    · refine dw_g rfl ?_
      refine dg_s (pc' := 18) [.int (0 : Int32)] rfl (fun _ => rfl) rfl ?_
      refine dg_s (pc' := 22) [.int (0 : Int32)] rfl (fun _ => rfl) rfl ?_
      exact dw_r (some (.inl (some (.int (0 : Int32)), m))) rfl (fun _ => rfl) (kR _)
  · refine dw_g rfl ?_
    refine dg_s (pc' := 8) [.int (1 : Int32)] rfl (fun _ => rfl) rfl ?_
    exact dw_r (some (.inl (some (.int (1 : Int32)), m))) rfl (fun _ => rfl) (kR _)
def H_X6_faultAs : dc_H := fun As m k => match As with
  | [.ref x0, .int x1] => k (some (.int (d_X6_faultAs x0 x1 m))) m
  | _ => dc_kz
theorem H_X6_faultAs_ok {u : Nat} : dc_cok u 78 H_X6_faultAs := fun M' hG N As m k P hz hP => by
  obtain rfl : ab_M_X6_faultAs = M' := Option.some.inj hG
  unfold H_X6_faultAs at hP
  split at hP
  · rename_i x0 x1
    exact dc_pv.imp (k_X6_faultAs (Φ := fun (t : Int32) r m' => P (k (some (.int t)) m) → P (k r m')) x0 x1 m (fun _  h => h) rfl rfl) (fun r m' h => h hP)
  · exact absurd hP hz
def C_X6_hasCells : List (Nat × dc_H) := []
theorem CO_X6_hasCells {u : Nat} : dc_CO u C_X6_hasCells := dc_CO_nil
def S_X6_hasCells : List (Nat × List Nat) := []
def d_X6_hasCells (x0 : Nat) (x1 : Int32) (x2 : Int32) (m : dc_M) : Int32 :=
  (if (Int32.toInt x1) < 0 then (0 : Int32) else (if (Int32.toInt ((m.1 x0 0) - x2)) < (Int32.toInt x1) then (0 : Int32) else (1 : Int32)))
set_option maxHeartbeats 8000000 in
theorem k_X6_hasCells {u : Nat} {N : Nat} {Φ : Int32 → Option Value → dc_M → Prop} (x0 : Nat) (x1 : Int32) (x2 : Int32) (m : dc_M) (kR : ∀ (v : Int32), Φ (v) (some (.int v)) m)  {lv : ab_L} (f0 : ab_lk lv 0 = some (.ref x0)) (f1 : ab_lk lv 1 = some (.int x1)) (f2 : ab_lk lv 2 = some (.int x2)) : dc_pv u N ab_M_X6_hasCells 0 lv [] m (Φ (d_X6_hasCells x0 x1 x2 m)) := by
  refine dc_pv.mono (dc_ok (C := C_X6_hasCells) (S := S_X6_hasCells) CO_X6_hasCells 400 0 [(0, .ref x0), (1, .int x1), (2, .int x2)] lv [] m (dc_sub_cons f0 (dc_sub_cons f1 (dc_sub_cons f2 (dc_sub_nil)))) ?_) (Nat.le_succ N)
  unfold d_X6_hasCells
  refine dg_s (pc' := 1) [.int x1] rfl (fun _ => rfl) rfl ?_
  refine dw_if (fun t => Φ t) ((Int32.toInt x1) < 0) [] 18 4 rfl (fun _ => rfl) (fun c0 => ?_) (fun c0 => ?_)
  · refine dw_g rfl ?_
    refine dg_s (pc' := 19) [.int (0 : Int32)] rfl (fun _ => rfl) rfl ?_
    exact dw_r (some (.inl (some (.int (0 : Int32)), m))) rfl (fun _ => rfl) (kR _)
  · refine dw_g rfl ?_
    refine dg_s (pc' := 5) [.int x1] rfl (fun _ => rfl) rfl ?_
    refine dg_s (pc' := 6) [.ref x0, .int x1] rfl (fun _ => rfl) rfl ?_
    refine dg_s (pc' := 9) [.int (m.1 x0 0), .int x1] rfl (fun _ => rfl) rfl ?_
    refine dg_s (pc' := 10) [.int x2, .int (m.1 x0 0), .int x1] rfl (fun _ => rfl) rfl ?_
    refine dg_s (pc' := 11) [.int ((m.1 x0 0) - x2), .int x1] rfl (fun _ => rfl) rfl ?_
    refine dw_if (fun t => Φ t) ((Int32.toInt ((m.1 x0 0) - x2)) < (Int32.toInt x1)) [] 18 14 rfl (fun _ => rfl) (fun c1 => ?_) (fun c1 => ?_)
    · refine dw_g rfl ?_
      refine dg_s (pc' := 19) [.int (0 : Int32)] rfl (fun _ => rfl) rfl ?_
      exact dw_r (some (.inl (some (.int (0 : Int32)), m))) rfl (fun _ => rfl) (kR _)
    · refine dw_g rfl ?_
      refine dg_s (pc' := 15) [.int (1 : Int32)] rfl (fun _ => rfl) rfl ?_
      refine dg_s (pc' := 19) [.int (1 : Int32)] rfl (fun _ => rfl) rfl ?_
      exact dw_r (some (.inl (some (.int (1 : Int32)), m))) rfl (fun _ => rfl) (kR _)
def H_X6_hasCells : dc_H := fun As m k => match As with
  | [.ref x0, .int x1, .int x2] => k (some (.int (d_X6_hasCells x0 x1 x2 m))) m
  | _ => dc_kz
theorem H_X6_hasCells_ok {u : Nat} : dc_cok u 79 H_X6_hasCells := fun M' hG N As m k P hz hP => by
  obtain rfl : ab_M_X6_hasCells = M' := Option.some.inj hG
  unfold H_X6_hasCells at hP
  split at hP
  · rename_i x0 x1 x2
    exact dc_pv.imp (k_X6_hasCells (Φ := fun (t : Int32) r m' => P (k (some (.int t)) m) → P (k r m')) x0 x1 x2 m (fun _  h => h) rfl rfl rfl) (fun r m' h => h hP)
  · exact absurd hP hz
def C_X6_put : List (Nat × dc_H) := []
theorem CO_X6_put {u : Nat} : dc_CO u C_X6_put := dc_CO_nil
def S_X6_put : List (Nat × List Nat) := []
def d_X6_put (x0 : Nat) (x1 : Int32) (x2 : Int32) (m : dc_M) : dc_M :=
  (if ¬ (Int32.toInt (m.1 x0 2)) = 0 then (if ¬ (Int32.toInt (m.1 x0 2)) = 1 then (dc_wi m (x0 + 1) (Int32.toNatClampNeg x1) x2) else (dc_wi m (x0 + 1) (Int32.toNatClampNeg x1) ((x2).toInt16.toInt32))) else (dc_wi m (x0 + 1) (Int32.toNatClampNeg x1) ((x2).toInt8.toInt32)))
set_option maxHeartbeats 8000000 in
theorem k_X6_put {u : Nat} {N : Nat} {Φ : dc_M → Option Value → dc_M → Prop} (x0 : Nat) (x1 : Int32) (x2 : Int32) (m : dc_M) (kR : ∀  (m : dc_M), Φ (m) (none) m)  {lv : ab_L} (f0 : ab_lk lv 0 = some (.ref x0)) (f1 : ab_lk lv 1 = some (.int x1)) (f2 : ab_lk lv 2 = some (.int x2)) : dc_pv u N ab_M_X6_put 0 lv [] m (Φ (d_X6_put x0 x1 x2 m)) := by
  refine dc_pv.mono (dc_ok (C := C_X6_put) (S := S_X6_put) CO_X6_put 400 0 [(0, .ref x0), (1, .int x1), (2, .int x2)] lv [] m (dc_sub_cons f0 (dc_sub_cons f1 (dc_sub_cons f2 (dc_sub_nil)))) ?_) (Nat.le_succ N)
  unfold d_X6_put
  refine dg_s (pc' := 1) [.ref x0] rfl (fun _ => rfl) rfl ?_
  refine dg_s (pc' := 4) [.ref (x0 + 1)] rfl (fun _ => rfl) rfl ?_
  refine dg_s (pc' := 5) [.int x1, .ref (x0 + 1)] rfl (fun _ => rfl) rfl ?_
  refine dg_s (pc' := 6) [.ref x0, .int x1, .ref (x0 + 1)] rfl (fun _ => rfl) rfl ?_
  refine dg_s (pc' := 9) [.int (m.1 x0 2), .int x1, .ref (x0 + 1)] rfl (fun _ => rfl) rfl ?_
  refine dw_if (fun t => Φ t) (¬ (Int32.toInt (m.1 x0 2)) = 0) [.int x1, .ref (x0 + 1)] 17 12 rfl (fun _ => rfl) (fun c0 => ?_) (fun c0 => ?_)
  · refine dw_g rfl ?_
    refine dg_s (pc' := 18) [.ref x0, .int x1, .ref (x0 + 1)] rfl (fun _ => rfl) rfl ?_
    refine dg_s (pc' := 21) [.int (m.1 x0 2), .int x1, .ref (x0 + 1)] rfl (fun _ => rfl) rfl ?_
    refine dg_s (pc' := 22) [.int (1 : Int32), .int (m.1 x0 2), .int x1, .ref (x0 + 1)] rfl (fun _ => rfl) rfl ?_
    refine dw_if (fun t => Φ t) (¬ (Int32.toInt (m.1 x0 2)) = 1) [.int x1, .ref (x0 + 1)] 30 25 rfl (fun _ => rfl) (fun c1 => ?_) (fun c1 => ?_)
    · refine dw_g rfl ?_
      refine dg_s (pc' := 31) [.int x2, .int x1, .ref (x0 + 1)] rfl (fun _ => rfl) rfl ?_
      refine dg_m (pc' := 32) (dc_wi m (x0 + 1) (Int32.toNatClampNeg x1) x2) [] rfl (fun _ => rfl) rfl ?_
      exact dw_r (some (.inl (none, (dc_wi m (x0 + 1) (Int32.toNatClampNeg x1) x2)))) rfl (fun _ => rfl) (kR _)
    · refine dw_g rfl ?_
      refine dg_s (pc' := 26) [.int x2, .int x1, .ref (x0 + 1)] rfl (fun _ => rfl) rfl ?_
      refine dg_s (pc' := 27) [.int ((x2).toInt16.toInt32), .int x1, .ref (x0 + 1)] rfl (fun _ => rfl) rfl ?_
      refine dg_s (pc' := 31) [.int ((x2).toInt16.toInt32), .int x1, .ref (x0 + 1)] rfl (fun _ => rfl) rfl ?_
      refine dg_m (pc' := 32) (dc_wi m (x0 + 1) (Int32.toNatClampNeg x1) ((x2).toInt16.toInt32)) [] rfl (fun _ => rfl) rfl ?_
      exact dw_r (some (.inl (none, (dc_wi m (x0 + 1) (Int32.toNatClampNeg x1) ((x2).toInt16.toInt32))))) rfl (fun _ => rfl) (kR _)
  · refine dw_g rfl ?_
    refine dg_s (pc' := 13) [.int x2, .int x1, .ref (x0 + 1)] rfl (fun _ => rfl) rfl ?_
    refine dg_s (pc' := 14) [.int ((x2).toInt8.toInt32), .int x1, .ref (x0 + 1)] rfl (fun _ => rfl) rfl ?_
    refine dg_s (pc' := 31) [.int ((x2).toInt8.toInt32), .int x1, .ref (x0 + 1)] rfl (fun _ => rfl) rfl ?_
    refine dg_m (pc' := 32) (dc_wi m (x0 + 1) (Int32.toNatClampNeg x1) ((x2).toInt8.toInt32)) [] rfl (fun _ => rfl) rfl ?_
    exact dw_r (some (.inl (none, (dc_wi m (x0 + 1) (Int32.toNatClampNeg x1) ((x2).toInt8.toInt32))))) rfl (fun _ => rfl) (kR _)
def H_X6_put : dc_H := fun As m k => match As with
  | [.ref x0, .int x1, .int x2] => dc_let (d_X6_put x0 x1 x2 m) (fun q => k (none) q)
  | _ => dc_kz
theorem H_X6_put_ok {u : Nat} : dc_cok u 80 H_X6_put := fun M' hG N As m k P hz hP => by
  obtain rfl : ab_M_X6_put = M' := Option.some.inj hG
  unfold H_X6_put at hP
  split at hP
  · rename_i x0 x1 x2
    exact dc_pv.imp (k_X6_put (Φ := fun (t : dc_M) r m' => P (dc_let t (fun q => k (none) q)) → P (k r m')) x0 x1 x2 m (fun _ h => h) rfl rfl rfl) (fun r m' h => h hP)
  · exact absurd hP hz
def C_X7_meet : List (Nat × dc_H) := []
theorem CO_X7_meet {u : Nat} : dc_CO u C_X7_meet := dc_CO_nil
def S_X7_meet : List (Nat × List Nat) := [(11, [0, 1, 2, 3, 4]), (65, [0, 1, 2, 3])]
noncomputable def d_X7_meet_b65 (x0 : Nat) (x1 : Int32) (x2 : Int32) (x3 : Int32) (m : dc_M) : Option (Int32 × dc_M) :=
  (if (Int32.toInt (m.1 x0 0)) < 200 then some ((((dc_wi (dc_wi (dc_wi m (x0 + 1) (Int32.toNatClampNeg (m.1 x0 0)) x1) (x0 + 3) (Int32.toNatClampNeg ((dc_wi m (x0 + 1) (Int32.toNatClampNeg (m.1 x0 0)) x1).1 x0 0)) x2) (x0 + 6) (Int32.toNatClampNeg x3) (((dc_wi (dc_wi m (x0 + 1) (Int32.toNatClampNeg (m.1 x0 0)) x1) (x0 + 3) (Int32.toNatClampNeg ((dc_wi m (x0 + 1) (Int32.toNatClampNeg (m.1 x0 0)) x1).1 x0 0)) x2).1 x0 0) + (1 : Int32))).1 x0 0), (dc_wi (dc_wi (dc_wi (dc_wi m (x0 + 1) (Int32.toNatClampNeg (m.1 x0 0)) x1) (x0 + 3) (Int32.toNatClampNeg ((dc_wi m (x0 + 1) (Int32.toNatClampNeg (m.1 x0 0)) x1).1 x0 0)) x2) (x0 + 6) (Int32.toNatClampNeg x3) (((dc_wi (dc_wi m (x0 + 1) (Int32.toNatClampNeg (m.1 x0 0)) x1) (x0 + 3) (Int32.toNatClampNeg ((dc_wi m (x0 + 1) (Int32.toNatClampNeg (m.1 x0 0)) x1).1 x0 0)) x2).1 x0 0) + (1 : Int32))) x0 0 (((dc_wi (dc_wi (dc_wi m (x0 + 1) (Int32.toNatClampNeg (m.1 x0 0)) x1) (x0 + 3) (Int32.toNatClampNeg ((dc_wi m (x0 + 1) (Int32.toNatClampNeg (m.1 x0 0)) x1).1 x0 0)) x2) (x0 + 6) (Int32.toNatClampNeg x3) (((dc_wi (dc_wi m (x0 + 1) (Int32.toNatClampNeg (m.1 x0 0)) x1) (x0 + 3) (Int32.toNatClampNeg ((dc_wi m (x0 + 1) (Int32.toNatClampNeg (m.1 x0 0)) x1).1 x0 0)) x2).1 x0 0) + (1 : Int32))).1 x0 0) + (1 : Int32))))) else some (((-4 : Int32), m)))
set_option maxHeartbeats 8000000 in
theorem k_X7_meet_b65 {u : Nat} {N : Nat} {Φ : (Option (Int32 × dc_M)) → Option Value → dc_M → Prop} (x0 : Nat) (x1 : Int32) (x2 : Int32) (x3 : Int32) (m : dc_M) (kR : ∀ (v : Int32) (m : dc_M), Φ (some ((v, m))) (some (.int v)) m)  {lv : ab_L} (f0 : ab_lk lv 0 = some (.ref x0)) (f1 : ab_lk lv 1 = some (.int x1)) (f2 : ab_lk lv 2 = some (.int x2)) (f3 : ab_lk lv 3 = some (.int x3)) : dc_pv u N ab_M_X7_meet 65 lv [] m (Φ (d_X7_meet_b65 x0 x1 x2 x3 m)) := by
  refine dc_pv.mono (dc_ok (C := C_X7_meet) (S := S_X7_meet) CO_X7_meet 400 65 [(0, .ref x0), (1, .int x1), (2, .int x2), (3, .int x3)] lv [] m (dc_sub_cons f0 (dc_sub_cons f1 (dc_sub_cons f2 (dc_sub_cons f3 (dc_sub_nil))))) ?_) (Nat.le_succ N)
  unfold d_X7_meet_b65
  refine dg_s (pc' := 66) [.ref x0] rfl (fun _ => rfl) rfl ?_
  refine dg_s (pc' := 69) [.int (m.1 x0 0)] rfl (fun _ => rfl) rfl ?_
  refine dg_s (pc' := 72) [.int (200 : Int32), .int (m.1 x0 0)] rfl (fun _ => rfl) rfl ?_
  refine dw_if (fun t => Φ t) ((Int32.toInt (m.1 x0 0)) < 200) [] 78 75 rfl (fun _ => rfl) (fun c0 => ?_) (fun c0 => ?_)
  · refine dw_g rfl ?_
    refine dg_s (pc' := 79) [.ref x0] rfl (fun _ => rfl) rfl ?_
    refine dg_s (pc' := 82) [.ref (x0 + 1)] rfl (fun _ => rfl) rfl ?_
    refine dg_s (pc' := 83) [.ref x0, .ref (x0 + 1)] rfl (fun _ => rfl) rfl ?_
    refine dg_s (pc' := 86) [.int (m.1 x0 0), .ref (x0 + 1)] rfl (fun _ => rfl) rfl ?_
    refine dg_s (pc' := 87) [.int x1, .int (m.1 x0 0), .ref (x0 + 1)] rfl (fun _ => rfl) rfl ?_
    refine dg_m (pc' := 88) (dc_wi m (x0 + 1) (Int32.toNatClampNeg (m.1 x0 0)) x1) [] rfl (fun _ => rfl) rfl ?_
    refine dg_s (pc' := 89) [.ref x0] rfl (fun _ => rfl) rfl ?_
    refine dg_s (pc' := 92) [.ref (x0 + 3)] rfl (fun _ => rfl) rfl ?_
    refine dg_s (pc' := 93) [.ref x0, .ref (x0 + 3)] rfl (fun _ => rfl) rfl ?_
    refine dg_s (pc' := 96) [.int ((dc_wi m (x0 + 1) (Int32.toNatClampNeg (m.1 x0 0)) x1).1 x0 0), .ref (x0 + 3)] rfl (fun _ => rfl) rfl ?_
    refine dg_s (pc' := 97) [.int x2, .int ((dc_wi m (x0 + 1) (Int32.toNatClampNeg (m.1 x0 0)) x1).1 x0 0), .ref (x0 + 3)] rfl (fun _ => rfl) rfl ?_
    refine dg_m (pc' := 98) (dc_wi (dc_wi m (x0 + 1) (Int32.toNatClampNeg (m.1 x0 0)) x1) (x0 + 3) (Int32.toNatClampNeg ((dc_wi m (x0 + 1) (Int32.toNatClampNeg (m.1 x0 0)) x1).1 x0 0)) x2) [] rfl (fun _ => rfl) rfl ?_
    refine dg_s (pc' := 99) [.ref x0] rfl (fun _ => rfl) rfl ?_
    refine dg_s (pc' := 102) [.ref (x0 + 6)] rfl (fun _ => rfl) rfl ?_
    refine dg_s (pc' := 103) [.int x3, .ref (x0 + 6)] rfl (fun _ => rfl) rfl ?_
    refine dg_s (pc' := 104) [.ref x0, .int x3, .ref (x0 + 6)] rfl (fun _ => rfl) rfl ?_
    refine dg_s (pc' := 107) [.int ((dc_wi (dc_wi m (x0 + 1) (Int32.toNatClampNeg (m.1 x0 0)) x1) (x0 + 3) (Int32.toNatClampNeg ((dc_wi m (x0 + 1) (Int32.toNatClampNeg (m.1 x0 0)) x1).1 x0 0)) x2).1 x0 0), .int x3, .ref (x0 + 6)] rfl (fun _ => rfl) rfl ?_
    refine dg_s (pc' := 108) [.int (1 : Int32), .int ((dc_wi (dc_wi m (x0 + 1) (Int32.toNatClampNeg (m.1 x0 0)) x1) (x0 + 3) (Int32.toNatClampNeg ((dc_wi m (x0 + 1) (Int32.toNatClampNeg (m.1 x0 0)) x1).1 x0 0)) x2).1 x0 0), .int x3, .ref (x0 + 6)] rfl (fun _ => rfl) rfl ?_
    refine dg_s (pc' := 109) [.int (((dc_wi (dc_wi m (x0 + 1) (Int32.toNatClampNeg (m.1 x0 0)) x1) (x0 + 3) (Int32.toNatClampNeg ((dc_wi m (x0 + 1) (Int32.toNatClampNeg (m.1 x0 0)) x1).1 x0 0)) x2).1 x0 0) + (1 : Int32)), .int x3, .ref (x0 + 6)] rfl (fun _ => rfl) rfl ?_
    refine dg_m (pc' := 110) (dc_wi (dc_wi (dc_wi m (x0 + 1) (Int32.toNatClampNeg (m.1 x0 0)) x1) (x0 + 3) (Int32.toNatClampNeg ((dc_wi m (x0 + 1) (Int32.toNatClampNeg (m.1 x0 0)) x1).1 x0 0)) x2) (x0 + 6) (Int32.toNatClampNeg x3) (((dc_wi (dc_wi m (x0 + 1) (Int32.toNatClampNeg (m.1 x0 0)) x1) (x0 + 3) (Int32.toNatClampNeg ((dc_wi m (x0 + 1) (Int32.toNatClampNeg (m.1 x0 0)) x1).1 x0 0)) x2).1 x0 0) + (1 : Int32))) [] rfl (fun _ => rfl) rfl ?_
    refine dg_s (pc' := 111) [.ref x0] rfl (fun _ => rfl) rfl ?_
    refine dg_s (pc' := 112) [.ref x0, .ref x0] rfl (fun _ => rfl) rfl ?_
    refine dg_s (pc' := 115) [.int ((dc_wi (dc_wi (dc_wi m (x0 + 1) (Int32.toNatClampNeg (m.1 x0 0)) x1) (x0 + 3) (Int32.toNatClampNeg ((dc_wi m (x0 + 1) (Int32.toNatClampNeg (m.1 x0 0)) x1).1 x0 0)) x2) (x0 + 6) (Int32.toNatClampNeg x3) (((dc_wi (dc_wi m (x0 + 1) (Int32.toNatClampNeg (m.1 x0 0)) x1) (x0 + 3) (Int32.toNatClampNeg ((dc_wi m (x0 + 1) (Int32.toNatClampNeg (m.1 x0 0)) x1).1 x0 0)) x2).1 x0 0) + (1 : Int32))).1 x0 0), .ref x0] rfl (fun _ => rfl) rfl ?_
    refine dg_s (pc' := 116) [.int ((dc_wi (dc_wi (dc_wi m (x0 + 1) (Int32.toNatClampNeg (m.1 x0 0)) x1) (x0 + 3) (Int32.toNatClampNeg ((dc_wi m (x0 + 1) (Int32.toNatClampNeg (m.1 x0 0)) x1).1 x0 0)) x2) (x0 + 6) (Int32.toNatClampNeg x3) (((dc_wi (dc_wi m (x0 + 1) (Int32.toNatClampNeg (m.1 x0 0)) x1) (x0 + 3) (Int32.toNatClampNeg ((dc_wi m (x0 + 1) (Int32.toNatClampNeg (m.1 x0 0)) x1).1 x0 0)) x2).1 x0 0) + (1 : Int32))).1 x0 0), .ref x0, .int ((dc_wi (dc_wi (dc_wi m (x0 + 1) (Int32.toNatClampNeg (m.1 x0 0)) x1) (x0 + 3) (Int32.toNatClampNeg ((dc_wi m (x0 + 1) (Int32.toNatClampNeg (m.1 x0 0)) x1).1 x0 0)) x2) (x0 + 6) (Int32.toNatClampNeg x3) (((dc_wi (dc_wi m (x0 + 1) (Int32.toNatClampNeg (m.1 x0 0)) x1) (x0 + 3) (Int32.toNatClampNeg ((dc_wi m (x0 + 1) (Int32.toNatClampNeg (m.1 x0 0)) x1).1 x0 0)) x2).1 x0 0) + (1 : Int32))).1 x0 0)] rfl (fun _ => rfl) rfl ?_
    refine dg_s (pc' := 117) [.int (1 : Int32), .int ((dc_wi (dc_wi (dc_wi m (x0 + 1) (Int32.toNatClampNeg (m.1 x0 0)) x1) (x0 + 3) (Int32.toNatClampNeg ((dc_wi m (x0 + 1) (Int32.toNatClampNeg (m.1 x0 0)) x1).1 x0 0)) x2) (x0 + 6) (Int32.toNatClampNeg x3) (((dc_wi (dc_wi m (x0 + 1) (Int32.toNatClampNeg (m.1 x0 0)) x1) (x0 + 3) (Int32.toNatClampNeg ((dc_wi m (x0 + 1) (Int32.toNatClampNeg (m.1 x0 0)) x1).1 x0 0)) x2).1 x0 0) + (1 : Int32))).1 x0 0), .ref x0, .int ((dc_wi (dc_wi (dc_wi m (x0 + 1) (Int32.toNatClampNeg (m.1 x0 0)) x1) (x0 + 3) (Int32.toNatClampNeg ((dc_wi m (x0 + 1) (Int32.toNatClampNeg (m.1 x0 0)) x1).1 x0 0)) x2) (x0 + 6) (Int32.toNatClampNeg x3) (((dc_wi (dc_wi m (x0 + 1) (Int32.toNatClampNeg (m.1 x0 0)) x1) (x0 + 3) (Int32.toNatClampNeg ((dc_wi m (x0 + 1) (Int32.toNatClampNeg (m.1 x0 0)) x1).1 x0 0)) x2).1 x0 0) + (1 : Int32))).1 x0 0)] rfl (fun _ => rfl) rfl ?_
    refine dg_s (pc' := 118) [.int (((dc_wi (dc_wi (dc_wi m (x0 + 1) (Int32.toNatClampNeg (m.1 x0 0)) x1) (x0 + 3) (Int32.toNatClampNeg ((dc_wi m (x0 + 1) (Int32.toNatClampNeg (m.1 x0 0)) x1).1 x0 0)) x2) (x0 + 6) (Int32.toNatClampNeg x3) (((dc_wi (dc_wi m (x0 + 1) (Int32.toNatClampNeg (m.1 x0 0)) x1) (x0 + 3) (Int32.toNatClampNeg ((dc_wi m (x0 + 1) (Int32.toNatClampNeg (m.1 x0 0)) x1).1 x0 0)) x2).1 x0 0) + (1 : Int32))).1 x0 0) + (1 : Int32)), .ref x0, .int ((dc_wi (dc_wi (dc_wi m (x0 + 1) (Int32.toNatClampNeg (m.1 x0 0)) x1) (x0 + 3) (Int32.toNatClampNeg ((dc_wi m (x0 + 1) (Int32.toNatClampNeg (m.1 x0 0)) x1).1 x0 0)) x2) (x0 + 6) (Int32.toNatClampNeg x3) (((dc_wi (dc_wi m (x0 + 1) (Int32.toNatClampNeg (m.1 x0 0)) x1) (x0 + 3) (Int32.toNatClampNeg ((dc_wi m (x0 + 1) (Int32.toNatClampNeg (m.1 x0 0)) x1).1 x0 0)) x2).1 x0 0) + (1 : Int32))).1 x0 0)] rfl (fun _ => rfl) rfl ?_
    refine dg_m (pc' := 121) (dc_wi (dc_wi (dc_wi (dc_wi m (x0 + 1) (Int32.toNatClampNeg (m.1 x0 0)) x1) (x0 + 3) (Int32.toNatClampNeg ((dc_wi m (x0 + 1) (Int32.toNatClampNeg (m.1 x0 0)) x1).1 x0 0)) x2) (x0 + 6) (Int32.toNatClampNeg x3) (((dc_wi (dc_wi m (x0 + 1) (Int32.toNatClampNeg (m.1 x0 0)) x1) (x0 + 3) (Int32.toNatClampNeg ((dc_wi m (x0 + 1) (Int32.toNatClampNeg (m.1 x0 0)) x1).1 x0 0)) x2).1 x0 0) + (1 : Int32))) x0 0 (((dc_wi (dc_wi (dc_wi m (x0 + 1) (Int32.toNatClampNeg (m.1 x0 0)) x1) (x0 + 3) (Int32.toNatClampNeg ((dc_wi m (x0 + 1) (Int32.toNatClampNeg (m.1 x0 0)) x1).1 x0 0)) x2) (x0 + 6) (Int32.toNatClampNeg x3) (((dc_wi (dc_wi m (x0 + 1) (Int32.toNatClampNeg (m.1 x0 0)) x1) (x0 + 3) (Int32.toNatClampNeg ((dc_wi m (x0 + 1) (Int32.toNatClampNeg (m.1 x0 0)) x1).1 x0 0)) x2).1 x0 0) + (1 : Int32))).1 x0 0) + (1 : Int32))) [.int ((dc_wi (dc_wi (dc_wi m (x0 + 1) (Int32.toNatClampNeg (m.1 x0 0)) x1) (x0 + 3) (Int32.toNatClampNeg ((dc_wi m (x0 + 1) (Int32.toNatClampNeg (m.1 x0 0)) x1).1 x0 0)) x2) (x0 + 6) (Int32.toNatClampNeg x3) (((dc_wi (dc_wi m (x0 + 1) (Int32.toNatClampNeg (m.1 x0 0)) x1) (x0 + 3) (Int32.toNatClampNeg ((dc_wi m (x0 + 1) (Int32.toNatClampNeg (m.1 x0 0)) x1).1 x0 0)) x2).1 x0 0) + (1 : Int32))).1 x0 0)] rfl (fun _ => rfl) rfl ?_
    exact dw_r (some (.inl (some (.int ((dc_wi (dc_wi (dc_wi m (x0 + 1) (Int32.toNatClampNeg (m.1 x0 0)) x1) (x0 + 3) (Int32.toNatClampNeg ((dc_wi m (x0 + 1) (Int32.toNatClampNeg (m.1 x0 0)) x1).1 x0 0)) x2) (x0 + 6) (Int32.toNatClampNeg x3) (((dc_wi (dc_wi m (x0 + 1) (Int32.toNatClampNeg (m.1 x0 0)) x1) (x0 + 3) (Int32.toNatClampNeg ((dc_wi m (x0 + 1) (Int32.toNatClampNeg (m.1 x0 0)) x1).1 x0 0)) x2).1 x0 0) + (1 : Int32))).1 x0 0)), (dc_wi (dc_wi (dc_wi (dc_wi m (x0 + 1) (Int32.toNatClampNeg (m.1 x0 0)) x1) (x0 + 3) (Int32.toNatClampNeg ((dc_wi m (x0 + 1) (Int32.toNatClampNeg (m.1 x0 0)) x1).1 x0 0)) x2) (x0 + 6) (Int32.toNatClampNeg x3) (((dc_wi (dc_wi m (x0 + 1) (Int32.toNatClampNeg (m.1 x0 0)) x1) (x0 + 3) (Int32.toNatClampNeg ((dc_wi m (x0 + 1) (Int32.toNatClampNeg (m.1 x0 0)) x1).1 x0 0)) x2).1 x0 0) + (1 : Int32))) x0 0 (((dc_wi (dc_wi (dc_wi m (x0 + 1) (Int32.toNatClampNeg (m.1 x0 0)) x1) (x0 + 3) (Int32.toNatClampNeg ((dc_wi m (x0 + 1) (Int32.toNatClampNeg (m.1 x0 0)) x1).1 x0 0)) x2) (x0 + 6) (Int32.toNatClampNeg x3) (((dc_wi (dc_wi m (x0 + 1) (Int32.toNatClampNeg (m.1 x0 0)) x1) (x0 + 3) (Int32.toNatClampNeg ((dc_wi m (x0 + 1) (Int32.toNatClampNeg (m.1 x0 0)) x1).1 x0 0)) x2).1 x0 0) + (1 : Int32))).1 x0 0) + (1 : Int32)))))) rfl (fun _ => rfl) (kR _ _)
  · refine dw_g rfl ?_
    refine dg_s (pc' := 77) [.int (-4 : Int32)] rfl (fun _ => rfl) rfl ?_
    exact dw_r (some (.inl (some (.int (-4 : Int32)), m))) rfl (fun _ => rfl) (kR _ _)
noncomputable def d_X7_meet_l11b (x0 : Nat) (x1 : Int32) (x2 : Int32) (x3 : Int32) (x4 : Int32) (m : dc_M) : Option ((Int32 × Int32) ⊕ (Int32 × dc_M)) :=
  (if 512 ≤ (Int32.toInt x4) then ((d_X7_meet_b65 x0 x1 x2 x3 m).map (fun z => Sum.inr (z))) else (if 0 ≤ (Int32.toInt ((m.1 (x0 + 6) (Int32.toNatClampNeg x3)) - (1 : Int32))) then (if ¬ (Int32.toInt (m.1 (x0 + 1) (Int32.toNatClampNeg ((m.1 (x0 + 6) (Int32.toNatClampNeg x3)) - (1 : Int32))))) = (Int32.toInt x1) then some (Sum.inl (((x3 + (1 : Int32)) &&& (511 : Int32)), (x4 + (1 : Int32)))) else some (Sum.inr ((((m.1 (x0 + 6) (Int32.toNatClampNeg x3)) - (1 : Int32)), m)))) else ((d_X7_meet_b65 x0 x1 x2 x3 m).map (fun z => Sum.inr (z)))))
noncomputable def d_X7_meet_l11s (x0 : Nat) (x1 : Int32) (x2 : Int32) (m : dc_M) : (Int32 × Int32) → Option ((Int32 × Int32) ⊕ (Int32 × dc_M)) := fun s => d_X7_meet_l11b x0 x1 x2 s.1 s.2 m
noncomputable def d_X7_meet_l11 (x0 : Nat) (x1 : Int32) (x2 : Int32) (x3 : Int32) (x4 : Int32) (m : dc_M) : Option (Int32 × dc_M) := dc_lp (d_X7_meet_l11s x0 x1 x2 m) (x3, x4)
set_option maxHeartbeats 8000000 in
theorem k_X7_meet_l11 {u : Nat} {Φ : (Option (Int32 × dc_M)) → Option Value → dc_M → Prop} (x0 : Nat) (x1 : Int32) (x2 : Int32) (m : dc_M) (kR : ∀ (v : Int32) (m : dc_M), Φ (some ((v, m))) (some (.int v)) m) : ∀ (N : Nat), ∀ (x3 : Int32) (x4 : Int32) (lv : ab_L), ab_lk lv 0 = some (.ref x0) → ab_lk lv 1 = some (.int x1) → ab_lk lv 2 = some (.int x2) → ab_lk lv 3 = some (.int x3) → ab_lk lv 4 = some (.int x4) → dc_pv u N ab_M_X7_meet 11 lv [] m (Φ (d_X7_meet_l11 x0 x1 x2 x3 x4 m)) := by
  intro N
  induction N with
  | zero => intros; exact dc_pv_zero
  | succ N ih =>
    intro x3 x4 lv f0 f1 f2 f3 f4
    refine dc_ok (C := C_X7_meet) (S := S_X7_meet) CO_X7_meet 400 11 [(0, .ref x0), (1, .int x1), (2, .int x2), (3, .int x3), (4, .int x4)] lv [] m (dc_sub_cons f0 (dc_sub_cons f1 (dc_sub_cons f2 (dc_sub_cons f3 (dc_sub_cons f4 (dc_sub_nil)))))) ?_
    unfold d_X7_meet_l11
    rw [dc_lp_eq]
    show (fun t x => dc_lf u N ab_M_X7_meet (Φ (Option.bind t (dc_bk (d_X7_meet_l11s x0 x1 x2 m)))) x) (d_X7_meet_l11b x0 x1 x2 x3 x4 m) _
    dsimp only
    unfold d_X7_meet_l11b
    refine dg_s (pc' := 13) [.int x4] rfl (fun _ => rfl) rfl ?_
    refine dg_s (pc' := 16) [.int (512 : Int32), .int x4] rfl (fun _ => rfl) rfl ?_
    refine dw_if (fun t => Φ (Option.bind t (dc_bk (d_X7_meet_l11s x0 x1 x2 m)))) (512 ≤ (Int32.toInt x4)) [] 65 19 rfl (fun _ => rfl) (fun c0 => ?_) (fun c0 => ?_)
    · exact dw_j rfl (fun lv1 hv => k_X7_meet_b65 (Φ := (fun t => Φ (Option.bind (t.map (fun z => Sum.inr (z))) (dc_bk (d_X7_meet_l11s x0 x1 x2 m))))) x0 x1 x2 x3 m (fun _a _b => kR _a _b)  (hv.1 _ rfl) (hv.2.1 _ rfl) (hv.2.2.1 _ rfl) (hv.2.2.2.1 _ rfl))
    · refine dw_g rfl ?_
      refine dg_s (pc' := 20) [.ref x0] rfl (fun _ => rfl) rfl ?_
      refine dg_s (pc' := 23) [.ref (x0 + 6)] rfl (fun _ => rfl) rfl ?_
      refine dg_s (pc' := 24) [.int x3, .ref (x0 + 6)] rfl (fun _ => rfl) rfl ?_
      refine dg_s (pc' := 25) [.int (m.1 (x0 + 6) (Int32.toNatClampNeg x3))] rfl (fun _ => rfl) rfl ?_
      refine dg_s (pc' := 26) [.int (1 : Int32), .int (m.1 (x0 + 6) (Int32.toNatClampNeg x3))] rfl (fun _ => rfl) rfl ?_
      refine dg_s (pc' := 27) [.int ((m.1 (x0 + 6) (Int32.toNatClampNeg x3)) - (1 : Int32))] rfl (fun _ => rfl) rfl ?_
      refine dg_L (pc' := 29) [(5, .int ((m.1 (x0 + 6) (Int32.toNatClampNeg x3)) - (1 : Int32))), (0, .ref x0), (1, .int x1), (2, .int x2), (3, .int x3), (4, .int x4)] [] rfl (fun _ => rfl) rfl ?_
      refine dg_s (pc' := 31) [.int ((m.1 (x0 + 6) (Int32.toNatClampNeg x3)) - (1 : Int32))] rfl (fun _ => rfl) rfl ?_
      refine dw_if (fun t => Φ (Option.bind t (dc_bk (d_X7_meet_l11s x0 x1 x2 m)))) (0 ≤ (Int32.toInt ((m.1 (x0 + 6) (Int32.toNatClampNeg x3)) - (1 : Int32)))) [] 37 34 rfl (fun _ => rfl) (fun c1 => ?_) (fun c1 => ?_)
      · refine dw_g rfl ?_
        refine dg_s (pc' := 38) [.ref x0] rfl (fun _ => rfl) rfl ?_
        refine dg_s (pc' := 41) [.ref (x0 + 1)] rfl (fun _ => rfl) rfl ?_
        refine dg_s (pc' := 43) [.int ((m.1 (x0 + 6) (Int32.toNatClampNeg x3)) - (1 : Int32)), .ref (x0 + 1)] rfl (fun _ => rfl) rfl ?_
        refine dg_s (pc' := 44) [.int (m.1 (x0 + 1) (Int32.toNatClampNeg ((m.1 (x0 + 6) (Int32.toNatClampNeg x3)) - (1 : Int32))))] rfl (fun _ => rfl) rfl ?_
        refine dg_s (pc' := 45) [.int x1, .int (m.1 (x0 + 1) (Int32.toNatClampNeg ((m.1 (x0 + 6) (Int32.toNatClampNeg x3)) - (1 : Int32))))] rfl (fun _ => rfl) rfl ?_
        refine dw_if (fun t => Φ (Option.bind t (dc_bk (d_X7_meet_l11s x0 x1 x2 m)))) (¬ (Int32.toInt (m.1 (x0 + 1) (Int32.toNatClampNeg ((m.1 (x0 + 6) (Int32.toNatClampNeg x3)) - (1 : Int32))))) = (Int32.toInt x1)) [] 51 48 rfl (fun _ => rfl) (fun c2 => ?_) (fun c2 => ?_)
        · refine dw_g rfl ?_
          refine dg_s (pc' := 52) [.int x3] rfl (fun _ => rfl) rfl ?_
          refine dg_s (pc' := 53) [.int (1 : Int32), .int x3] rfl (fun _ => rfl) rfl ?_
          refine dg_s (pc' := 54) [.int (x3 + (1 : Int32))] rfl (fun _ => rfl) rfl ?_
          refine dg_s (pc' := 57) [.int (511 : Int32), .int (x3 + (1 : Int32))] rfl (fun _ => rfl) rfl ?_
          refine dg_s (pc' := 58) [.int ((x3 + (1 : Int32)) &&& (511 : Int32))] rfl (fun _ => rfl) rfl ?_
          refine dg_L (pc' := 59) [(3, .int ((x3 + (1 : Int32)) &&& (511 : Int32))), (5, .int ((m.1 (x0 + 6) (Int32.toNatClampNeg x3)) - (1 : Int32))), (0, .ref x0), (1, .int x1), (2, .int x2), (4, .int x4)] [] rfl (fun _ => rfl) rfl ?_
          refine dg_L (pc' := 62) [(4, .int (x4 + (1 : Int32))), (3, .int ((x3 + (1 : Int32)) &&& (511 : Int32))), (5, .int ((m.1 (x0 + 6) (Int32.toNatClampNeg x3)) - (1 : Int32))), (0, .ref x0), (1, .int x1), (2, .int x2)] [] rfl (fun _ => rfl) rfl ?_
          refine dw_s (pc' := 11) [] rfl (fun _ => rfl) ?_
          exact dw_j rfl (fun lv1 hv => ih ((x3 + (1 : Int32)) &&& (511 : Int32)) (x4 + (1 : Int32)) lv1 (hv.1 _ rfl) (hv.2.1 _ rfl) (hv.2.2.1 _ rfl) (hv.2.2.2.1 _ rfl) (hv.2.2.2.2.1 _ rfl))
        · refine dw_g rfl ?_
          refine dg_s (pc' := 50) [.int ((m.1 (x0 + 6) (Int32.toNatClampNeg x3)) - (1 : Int32))] rfl (fun _ => rfl) rfl ?_
          exact dw_r (some (.inl (some (.int ((m.1 (x0 + 6) (Int32.toNatClampNeg x3)) - (1 : Int32))), m))) rfl (fun _ => rfl) (kR _ _)
      · refine dw_g rfl ?_
        refine dw_s (pc' := 65) [] rfl (fun _ => rfl) ?_
        exact dw_j rfl (fun lv1 hv => k_X7_meet_b65 (Φ := (fun t => Φ (Option.bind (t.map (fun z => Sum.inr (z))) (dc_bk (d_X7_meet_l11s x0 x1 x2 m))))) x0 x1 x2 x3 m (fun _a _b => kR _a _b)  (hv.1 _ rfl) (hv.2.1 _ rfl) (hv.2.2.1 _ rfl) (hv.2.2.2.1 _ rfl))
noncomputable def d_X7_meet (x0 : Nat) (x1 : Int32) (x2 : Int32) (m : dc_M) : Option (Int32 × dc_M) :=
  (d_X7_meet_l11 x0 x1 x2 (((x1 * (-1640531535 : Int32)).toUInt32 >>> ((23 : Int32).toUInt32 &&& Int32.toUInt32 31)).toInt32) (0 : Int32) m)
set_option maxHeartbeats 8000000 in
theorem k_X7_meet {u : Nat} {N : Nat} {Φ : (Option (Int32 × dc_M)) → Option Value → dc_M → Prop} (x0 : Nat) (x1 : Int32) (x2 : Int32) (m : dc_M) (kR : ∀ (v : Int32) (m : dc_M), Φ (some ((v, m))) (some (.int v)) m)  {lv : ab_L} (f0 : ab_lk lv 0 = some (.ref x0)) (f1 : ab_lk lv 1 = some (.int x1)) (f2 : ab_lk lv 2 = some (.int x2)) : dc_pv u N ab_M_X7_meet 0 lv [] m (Φ (d_X7_meet x0 x1 x2 m)) := by
  refine dc_pv.mono (dc_ok (C := C_X7_meet) (S := S_X7_meet) CO_X7_meet 400 0 [(0, .ref x0), (1, .int x1), (2, .int x2)] lv [] m (dc_sub_cons f0 (dc_sub_cons f1 (dc_sub_cons f2 (dc_sub_nil)))) ?_) (Nat.le_succ N)
  unfold d_X7_meet
  refine dg_s (pc' := 1) [.int x1] rfl (fun _ => rfl) rfl ?_
  refine dg_s (pc' := 3) [.int (-1640531535 : Int32), .int x1] rfl (fun _ => rfl) rfl ?_
  refine dg_s (pc' := 4) [.int (x1 * (-1640531535 : Int32))] rfl (fun _ => rfl) rfl ?_
  refine dg_s (pc' := 6) [.int (23 : Int32), .int (x1 * (-1640531535 : Int32))] rfl (fun _ => rfl) rfl ?_
  refine dg_s (pc' := 7) [.int (((x1 * (-1640531535 : Int32)).toUInt32 >>> ((23 : Int32).toUInt32 &&& Int32.toUInt32 31)).toInt32)] rfl (fun _ => rfl) rfl ?_
  refine dg_L (pc' := 8) [(3, .int (((x1 * (-1640531535 : Int32)).toUInt32 >>> ((23 : Int32).toUInt32 &&& Int32.toUInt32 31)).toInt32)), (0, .ref x0), (1, .int x1), (2, .int x2)] [] rfl (fun _ => rfl) rfl ?_
  refine dg_s (pc' := 9) [.int (0 : Int32)] rfl (fun _ => rfl) rfl ?_
  refine dw_L (pc' := 11) [(4, .int (0 : Int32)), (3, .int (((x1 * (-1640531535 : Int32)).toUInt32 >>> ((23 : Int32).toUInt32 &&& Int32.toUInt32 31)).toInt32)), (0, .ref x0), (1, .int x1), (2, .int x2)] [] rfl (fun _ => rfl) ?_
  exact dw_j rfl (fun lv1 hv => k_X7_meet_l11 (Φ := (fun t => Φ t)) x0 x1 x2 m (fun _a _b => kR _a _b) N  (((x1 * (-1640531535 : Int32)).toUInt32 >>> ((23 : Int32).toUInt32 &&& Int32.toUInt32 31)).toInt32) (0 : Int32) lv1 (hv.1 _ rfl) (hv.2.1 _ rfl) (hv.2.2.1 _ rfl) (hv.2.2.2.1 _ rfl) (hv.2.2.2.2.1 _ rfl))
noncomputable def H_X7_meet : dc_H := fun As m k => match As with
  | [.ref x0, .int x1, .int x2] => (d_X7_meet x0 x1 x2 m).bind (fun q => k (some (.int q.1)) q.2)
  | _ => dc_kz
theorem H_X7_meet_ok {u : Nat} : dc_cok u 90 H_X7_meet := fun M' hG N As m k P hz hP => by
  obtain rfl : ab_M_X7_meet = M' := Option.some.inj hG
  unfold H_X7_meet at hP
  split at hP
  · rename_i x0 x1 x2
    exact dc_pv.imp (k_X7_meet (Φ := fun (t : Option (Int32 × dc_M)) r m' => P (t.bind (fun q => k (some (.int q.1)) q.2)) → P (k r m')) x0 x1 x2 m (fun _ _ h => h) rfl rfl rfl) (fun r m' h => h hP)
  · exact absurd hP hz
noncomputable def C_X7_expand : List (Nat × dc_H) := [(39, H_X3_after), (36, H_X3_isReady), (37, H_X3_isUnsafe), (90, H_X7_meet)]
theorem CO_X7_expand {u : Nat} : dc_CO u C_X7_expand := dc_CO_cons H_X3_after_ok (dc_CO_cons H_X3_isReady_ok (dc_CO_cons H_X3_isUnsafe_ok (dc_CO_cons H_X7_meet_ok (dc_CO_nil))))
def S_X7_expand : List (Nat × List Nat) := [(16, [0, 1, 2, 3, 4, 5, 6]), (136, [0, 2, 4, 5])]
noncomputable def d_X7_expand_b136 (x0 : Nat) (x2 : Int32) (x4 : Int32) (x5 : Int32) (m : dc_M) : Option dc_M :=
  some ((dc_wi (dc_wi (dc_wi m (x0 + 2) (Int32.toNatClampNeg x2) x4) (x0 + 4) (Int32.toNatClampNeg x2) x5) x0 2 (((dc_wi (dc_wi m (x0 + 2) (Int32.toNatClampNeg x2) x4) (x0 + 4) (Int32.toNatClampNeg x2) x5).1 x0 2) ||| x4)))
set_option maxHeartbeats 8000000 in
theorem k_X7_expand_b136 {u : Nat} {N : Nat} {Φ : (Option dc_M) → Option Value → dc_M → Prop} (x0 : Nat) (x2 : Int32) (x4 : Int32) (x5 : Int32) (m : dc_M) (kR : ∀  (m : dc_M), Φ (some (m)) (none) m)  {lv : ab_L} (f0 : ab_lk lv 0 = some (.ref x0)) (f2 : ab_lk lv 2 = some (.int x2)) (f4 : ab_lk lv 4 = some (.int x4)) (f5 : ab_lk lv 5 = some (.int x5)) : dc_pv u N ab_M_X7_expand 136 lv [] m (Φ (d_X7_expand_b136 x0 x2 x4 x5 m)) := by
  refine dc_pv.mono (dc_ok (C := C_X7_expand) (S := S_X7_expand) CO_X7_expand 400 136 [(0, .ref x0), (2, .int x2), (4, .int x4), (5, .int x5)] lv [] m (dc_sub_cons f0 (dc_sub_cons f2 (dc_sub_cons f4 (dc_sub_cons f5 (dc_sub_nil))))) ?_) (Nat.le_succ N)
  unfold d_X7_expand_b136
  refine dg_s (pc' := 137) [.ref x0] rfl (fun _ => rfl) rfl ?_
  refine dg_s (pc' := 140) [.ref (x0 + 2)] rfl (fun _ => rfl) rfl ?_
  refine dg_s (pc' := 141) [.int x2, .ref (x0 + 2)] rfl (fun _ => rfl) rfl ?_
  refine dg_s (pc' := 143) [.int x4, .int x2, .ref (x0 + 2)] rfl (fun _ => rfl) rfl ?_
  refine dg_m (pc' := 144) (dc_wi m (x0 + 2) (Int32.toNatClampNeg x2) x4) [] rfl (fun _ => rfl) rfl ?_
  refine dg_s (pc' := 145) [.ref x0] rfl (fun _ => rfl) rfl ?_
  refine dg_s (pc' := 148) [.ref (x0 + 4)] rfl (fun _ => rfl) rfl ?_
  refine dg_s (pc' := 149) [.int x2, .ref (x0 + 4)] rfl (fun _ => rfl) rfl ?_
  refine dg_s (pc' := 151) [.int x5, .int x2, .ref (x0 + 4)] rfl (fun _ => rfl) rfl ?_
  refine dg_m (pc' := 152) (dc_wi (dc_wi m (x0 + 2) (Int32.toNatClampNeg x2) x4) (x0 + 4) (Int32.toNatClampNeg x2) x5) [] rfl (fun _ => rfl) rfl ?_
  refine dg_s (pc' := 153) [.ref x0] rfl (fun _ => rfl) rfl ?_
  refine dg_s (pc' := 154) [.ref x0, .ref x0] rfl (fun _ => rfl) rfl ?_
  refine dg_s (pc' := 157) [.int ((dc_wi (dc_wi m (x0 + 2) (Int32.toNatClampNeg x2) x4) (x0 + 4) (Int32.toNatClampNeg x2) x5).1 x0 2), .ref x0] rfl (fun _ => rfl) rfl ?_
  refine dg_s (pc' := 159) [.int x4, .int ((dc_wi (dc_wi m (x0 + 2) (Int32.toNatClampNeg x2) x4) (x0 + 4) (Int32.toNatClampNeg x2) x5).1 x0 2), .ref x0] rfl (fun _ => rfl) rfl ?_
  refine dg_s (pc' := 160) [.int (((dc_wi (dc_wi m (x0 + 2) (Int32.toNatClampNeg x2) x4) (x0 + 4) (Int32.toNatClampNeg x2) x5).1 x0 2) ||| x4), .ref x0] rfl (fun _ => rfl) rfl ?_
  refine dg_m (pc' := 163) (dc_wi (dc_wi (dc_wi m (x0 + 2) (Int32.toNatClampNeg x2) x4) (x0 + 4) (Int32.toNatClampNeg x2) x5) x0 2 (((dc_wi (dc_wi m (x0 + 2) (Int32.toNatClampNeg x2) x4) (x0 + 4) (Int32.toNatClampNeg x2) x5).1 x0 2) ||| x4)) [] rfl (fun _ => rfl) rfl ?_
  exact dw_r (some (.inl (none, (dc_wi (dc_wi (dc_wi m (x0 + 2) (Int32.toNatClampNeg x2) x4) (x0 + 4) (Int32.toNatClampNeg x2) x5) x0 2 (((dc_wi (dc_wi m (x0 + 2) (Int32.toNatClampNeg x2) x4) (x0 + 4) (Int32.toNatClampNeg x2) x5).1 x0 2) ||| x4))))) rfl (fun _ => rfl) (kR _)
noncomputable def d_X7_expand_l16b (x0 : Nat) (x1 : Nat) (x2 : Int32) (x3 : Int32) (x4 : Int32) (x5 : Int32) (x6 : Int32) (m : dc_M) : Option ((Int32 × Int32 × Int32 × dc_M) ⊕ dc_M) :=
  (if (Int32.toInt (m.1 x1 1)) ≤ (Int32.toInt x6) then ((d_X7_expand_b136 x0 x2 x4 x5 m).map (fun z => Sum.inr (z))) else (if ¬ (Int32.toInt (d_X3_isReady x1 x3 x6 m)) = 0 then (if (Int32.toInt (d_X3_isUnsafe x1 x3 x6 m)) = 0 then ((d_X7_meet x0 (d_X3_after x1 x3 x6 m) ((m.1 (x0 + 3) (Int32.toNatClampNeg x2)) ^^^ ((1 : Int32) <<< ((m.1 (x1 + 3) (Int32.toNatClampNeg x6)) &&& 31))) m).bind (fun q1 => (if 0 ≤ (Int32.toInt q1.1) then some (Sum.inl ((x4 ||| ((1 : Int32) <<< (x6 &&& 31))), (x5 ||| ((1 : Int32) <<< ((m.1 (x1 + 3) (Int32.toNatClampNeg x6)) &&& 31))), (x6 + (1 : Int32)), (dc_wi q1.2 (x0 + 5) (Int32.toNatClampNeg ((x2 * (16 : Int32)) + x6)) q1.1))) else some (Sum.inr ((dc_wi q1.2 x0 1 (-6 : Int32))))))) else some (Sum.inr ((dc_wi m x0 1 (-2 : Int32))))) else some (Sum.inl (x4, x5, (x6 + (1 : Int32)), m))))
noncomputable def d_X7_expand_l16s (x0 : Nat) (x1 : Nat) (x2 : Int32) (x3 : Int32) : (Int32 × Int32 × Int32 × dc_M) → Option ((Int32 × Int32 × Int32 × dc_M) ⊕ dc_M) := fun s => d_X7_expand_l16b x0 x1 x2 x3 s.1 s.2.1 s.2.2.1 s.2.2.2
noncomputable def d_X7_expand_l16 (x0 : Nat) (x1 : Nat) (x2 : Int32) (x3 : Int32) (x4 : Int32) (x5 : Int32) (x6 : Int32) (m : dc_M) : Option dc_M := dc_lp (d_X7_expand_l16s x0 x1 x2 x3) (x4, x5, x6, m)
set_option maxHeartbeats 8000000 in
theorem k_X7_expand_l16 {u : Nat} {Φ : (Option dc_M) → Option Value → dc_M → Prop} (x0 : Nat) (x1 : Nat) (x2 : Int32) (x3 : Int32) (kR : ∀  (m : dc_M), Φ (some (m)) (none) m) : ∀ (N : Nat), ∀ (x4 : Int32) (x5 : Int32) (x6 : Int32) (m : dc_M) (lv : ab_L), ab_lk lv 0 = some (.ref x0) → ab_lk lv 1 = some (.ref x1) → ab_lk lv 2 = some (.int x2) → ab_lk lv 3 = some (.int x3) → ab_lk lv 4 = some (.int x4) → ab_lk lv 5 = some (.int x5) → ab_lk lv 6 = some (.int x6) → dc_pv u N ab_M_X7_expand 16 lv [] m (Φ (d_X7_expand_l16 x0 x1 x2 x3 x4 x5 x6 m)) := by
  intro N
  induction N with
  | zero => intros; exact dc_pv_zero
  | succ N ih =>
    intro x4 x5 x6 m lv f0 f1 f2 f3 f4 f5 f6
    refine dc_ok (C := C_X7_expand) (S := S_X7_expand) CO_X7_expand 400 16 [(0, .ref x0), (1, .ref x1), (2, .int x2), (3, .int x3), (4, .int x4), (5, .int x5), (6, .int x6)] lv [] m (dc_sub_cons f0 (dc_sub_cons f1 (dc_sub_cons f2 (dc_sub_cons f3 (dc_sub_cons f4 (dc_sub_cons f5 (dc_sub_cons f6 (dc_sub_nil)))))))) ?_
    unfold d_X7_expand_l16
    rw [dc_lp_eq]
    show (fun t x => dc_lf u N ab_M_X7_expand (Φ (Option.bind t (dc_bk (d_X7_expand_l16s x0 x1 x2 x3)))) x) (d_X7_expand_l16b x0 x1 x2 x3 x4 x5 x6 m) _
    dsimp only
    unfold d_X7_expand_l16b
    refine dg_s (pc' := 18) [.int x6] rfl (fun _ => rfl) rfl ?_
    refine dg_s (pc' := 19) [.ref x1, .int x6] rfl (fun _ => rfl) rfl ?_
    refine dg_s (pc' := 22) [.int (m.1 x1 1), .int x6] rfl (fun _ => rfl) rfl ?_
    refine dw_if (fun t => Φ (Option.bind t (dc_bk (d_X7_expand_l16s x0 x1 x2 x3)))) ((Int32.toInt (m.1 x1 1)) ≤ (Int32.toInt x6)) [] 136 25 rfl (fun _ => rfl) (fun c0 => ?_) (fun c0 => ?_)
    · exact dw_j rfl (fun lv1 hv => k_X7_expand_b136 (Φ := (fun t => Φ (Option.bind (t.map (fun z => Sum.inr (z))) (dc_bk (d_X7_expand_l16s x0 x1 x2 x3))))) x0 x2 x4 x5 m (fun _b => kR _b)  (hv.1 _ rfl) (hv.2.1 _ rfl) (hv.2.2.1 _ rfl) (hv.2.2.2.1 _ rfl))
    · refine dw_g rfl ?_
      refine dg_s (pc' := 26) [.ref x1] rfl (fun _ => rfl) rfl ?_
      refine dg_s (pc' := 27) [.int x3, .ref x1] rfl (fun _ => rfl) rfl ?_
      refine dg_s (pc' := 29) [.int x6, .int x3, .ref x1] rfl (fun _ => rfl) rfl ?_
      refine dg_s (pc' := 32) [.int (d_X3_isReady x1 x3 x6 m)] rfl (fun _ => rfl) rfl ?_
      refine dw_if (fun t => Φ (Option.bind t (dc_bk (d_X7_expand_l16s x0 x1 x2 x3)))) (¬ (Int32.toInt (d_X3_isReady x1 x3 x6 m)) = 0) [] 38 35 rfl (fun _ => rfl) (fun c1 => ?_) (fun c1 => ?_)
      · refine dw_g rfl ?_
        refine dg_s (pc' := 39) [.ref x1] rfl (fun _ => rfl) rfl ?_
        refine dg_s (pc' := 40) [.int x3, .ref x1] rfl (fun _ => rfl) rfl ?_
        refine dg_s (pc' := 42) [.int x6, .int x3, .ref x1] rfl (fun _ => rfl) rfl ?_
        refine dg_s (pc' := 45) [.int (d_X3_isUnsafe x1 x3 x6 m)] rfl (fun _ => rfl) rfl ?_
        refine dw_if (fun t => Φ (Option.bind t (dc_bk (d_X7_expand_l16s x0 x1 x2 x3)))) ((Int32.toInt (d_X3_isUnsafe x1 x3 x6 m)) = 0) [] 55 48 rfl (fun _ => rfl) (fun c2 => ?_) (fun c2 => ?_)
        · refine dw_g rfl ?_
          refine dg_s (pc' := 56) [.int (1 : Int32)] rfl (fun _ => rfl) rfl ?_
          refine dg_s (pc' := 57) [.ref x1, .int (1 : Int32)] rfl (fun _ => rfl) rfl ?_
          refine dg_s (pc' := 60) [.ref (x1 + 3), .int (1 : Int32)] rfl (fun _ => rfl) rfl ?_
          refine dg_s (pc' := 62) [.int x6, .ref (x1 + 3), .int (1 : Int32)] rfl (fun _ => rfl) rfl ?_
          refine dg_s (pc' := 63) [.int (m.1 (x1 + 3) (Int32.toNatClampNeg x6)), .int (1 : Int32)] rfl (fun _ => rfl) rfl ?_
          refine dg_s (pc' := 64) [.int ((1 : Int32) <<< ((m.1 (x1 + 3) (Int32.toNatClampNeg x6)) &&& 31))] rfl (fun _ => rfl) rfl ?_
          refine dg_L (pc' := 66) [(7, .int ((1 : Int32) <<< ((m.1 (x1 + 3) (Int32.toNatClampNeg x6)) &&& 31))), (0, .ref x0), (1, .ref x1), (2, .int x2), (3, .int x3), (4, .int x4), (5, .int x5), (6, .int x6)] [] rfl (fun _ => rfl) rfl ?_
          refine dg_s (pc' := 67) [.ref x0] rfl (fun _ => rfl) rfl ?_
          refine dg_s (pc' := 68) [.ref x1, .ref x0] rfl (fun _ => rfl) rfl ?_
          refine dg_s (pc' := 69) [.int x3, .ref x1, .ref x0] rfl (fun _ => rfl) rfl ?_
          refine dg_s (pc' := 71) [.int x6, .int x3, .ref x1, .ref x0] rfl (fun _ => rfl) rfl ?_
          refine dg_s (pc' := 74) [.int (d_X3_after x1 x3 x6 m), .ref x0] rfl (fun _ => rfl) rfl ?_
          refine dg_s (pc' := 75) [.ref x0, .int (d_X3_after x1 x3 x6 m), .ref x0] rfl (fun _ => rfl) rfl ?_
          refine dg_s (pc' := 78) [.ref (x0 + 3), .int (d_X3_after x1 x3 x6 m), .ref x0] rfl (fun _ => rfl) rfl ?_
          refine dg_s (pc' := 79) [.int x2, .ref (x0 + 3), .int (d_X3_after x1 x3 x6 m), .ref x0] rfl (fun _ => rfl) rfl ?_
          refine dg_s (pc' := 80) [.int (m.1 (x0 + 3) (Int32.toNatClampNeg x2)), .int (d_X3_after x1 x3 x6 m), .ref x0] rfl (fun _ => rfl) rfl ?_
          refine dg_s (pc' := 82) [.int ((1 : Int32) <<< ((m.1 (x1 + 3) (Int32.toNatClampNeg x6)) &&& 31)), .int (m.1 (x0 + 3) (Int32.toNatClampNeg x2)), .int (d_X3_after x1 x3 x6 m), .ref x0] rfl (fun _ => rfl) rfl ?_
          refine dg_s (pc' := 83) [.int ((m.1 (x0 + 3) (Int32.toNatClampNeg x2)) ^^^ ((1 : Int32) <<< ((m.1 (x1 + 3) (Int32.toNatClampNeg x6)) &&& 31))), .int (d_X3_after x1 x3 x6 m), .ref x0] rfl (fun _ => rfl) rfl ?_
          refine dw_b (fun t => Φ (Option.bind t (dc_bk (d_X7_expand_l16s x0 x1 x2 x3)))) (pc' := 86) (fun q1 => [.int q1.1]) (fun q1 => q1.2) rfl (fun _ => rfl) (fun q1 => ?_)
          refine dw_g rfl ?_
          refine dg_L (pc' := 88) [(8, .int q1.1), (7, .int ((1 : Int32) <<< ((m.1 (x1 + 3) (Int32.toNatClampNeg x6)) &&& 31))), (0, .ref x0), (1, .ref x1), (2, .int x2), (3, .int x3), (4, .int x4), (5, .int x5), (6, .int x6)] [] rfl (fun _ => rfl) rfl ?_
          refine dg_s (pc' := 90) [.int q1.1] rfl (fun _ => rfl) rfl ?_
          refine dw_if (fun t => Φ (Option.bind t (dc_bk (d_X7_expand_l16s x0 x1 x2 x3)))) (0 ≤ (Int32.toInt q1.1)) [] 100 93 rfl (fun _ => rfl) (fun c3 => ?_) (fun c3 => ?_)
          · refine dw_g rfl ?_
            refine dg_s (pc' := 101) [.ref x0] rfl (fun _ => rfl) rfl ?_
            refine dg_s (pc' := 104) [.ref (x0 + 5)] rfl (fun _ => rfl) rfl ?_
            refine dg_s (pc' := 105) [.int x2, .ref (x0 + 5)] rfl (fun _ => rfl) rfl ?_
            refine dg_s (pc' := 107) [.int (16 : Int32), .int x2, .ref (x0 + 5)] rfl (fun _ => rfl) rfl ?_
            refine dg_s (pc' := 108) [.int (x2 * (16 : Int32)), .ref (x0 + 5)] rfl (fun _ => rfl) rfl ?_
            refine dg_s (pc' := 110) [.int x6, .int (x2 * (16 : Int32)), .ref (x0 + 5)] rfl (fun _ => rfl) rfl ?_
            refine dg_s (pc' := 111) [.int ((x2 * (16 : Int32)) + x6), .ref (x0 + 5)] rfl (fun _ => rfl) rfl ?_
            refine dg_s (pc' := 113) [.int q1.1, .int ((x2 * (16 : Int32)) + x6), .ref (x0 + 5)] rfl (fun _ => rfl) rfl ?_
            refine dg_m (pc' := 114) (dc_wi q1.2 (x0 + 5) (Int32.toNatClampNeg ((x2 * (16 : Int32)) + x6)) q1.1) [] rfl (fun _ => rfl) rfl ?_
            refine dg_s (pc' := 116) [.int x4] rfl (fun _ => rfl) rfl ?_
            refine dg_s (pc' := 117) [.int (1 : Int32), .int x4] rfl (fun _ => rfl) rfl ?_
            refine dg_s (pc' := 119) [.int x6, .int (1 : Int32), .int x4] rfl (fun _ => rfl) rfl ?_
            refine dg_s (pc' := 120) [.int ((1 : Int32) <<< (x6 &&& 31)), .int x4] rfl (fun _ => rfl) rfl ?_
            refine dg_s (pc' := 121) [.int (x4 ||| ((1 : Int32) <<< (x6 &&& 31)))] rfl (fun _ => rfl) rfl ?_
            refine dg_L (pc' := 123) [(4, .int (x4 ||| ((1 : Int32) <<< (x6 &&& 31)))), (8, .int q1.1), (7, .int ((1 : Int32) <<< ((m.1 (x1 + 3) (Int32.toNatClampNeg x6)) &&& 31))), (0, .ref x0), (1, .ref x1), (2, .int x2), (3, .int x3), (5, .int x5), (6, .int x6)] [] rfl (fun _ => rfl) rfl ?_
            refine dg_s (pc' := 125) [.int x5] rfl (fun _ => rfl) rfl ?_
            refine dg_s (pc' := 127) [.int ((1 : Int32) <<< ((m.1 (x1 + 3) (Int32.toNatClampNeg x6)) &&& 31)), .int x5] rfl (fun _ => rfl) rfl ?_
            refine dg_s (pc' := 128) [.int (x5 ||| ((1 : Int32) <<< ((m.1 (x1 + 3) (Int32.toNatClampNeg x6)) &&& 31)))] rfl (fun _ => rfl) rfl ?_
            refine dg_L (pc' := 130) [(5, .int (x5 ||| ((1 : Int32) <<< ((m.1 (x1 + 3) (Int32.toNatClampNeg x6)) &&& 31)))), (4, .int (x4 ||| ((1 : Int32) <<< (x6 &&& 31)))), (8, .int q1.1), (7, .int ((1 : Int32) <<< ((m.1 (x1 + 3) (Int32.toNatClampNeg x6)) &&& 31))), (0, .ref x0), (1, .ref x1), (2, .int x2), (3, .int x3), (6, .int x6)] [] rfl (fun _ => rfl) rfl ?_
            refine dg_L (pc' := 133) [(6, .int (x6 + (1 : Int32))), (5, .int (x5 ||| ((1 : Int32) <<< ((m.1 (x1 + 3) (Int32.toNatClampNeg x6)) &&& 31)))), (4, .int (x4 ||| ((1 : Int32) <<< (x6 &&& 31)))), (8, .int q1.1), (7, .int ((1 : Int32) <<< ((m.1 (x1 + 3) (Int32.toNatClampNeg x6)) &&& 31))), (0, .ref x0), (1, .ref x1), (2, .int x2), (3, .int x3)] [] rfl (fun _ => rfl) rfl ?_
            refine dw_s (pc' := 16) [] rfl (fun _ => rfl) ?_
            exact dw_j rfl (fun lv1 hv => ih (x4 ||| ((1 : Int32) <<< (x6 &&& 31))) (x5 ||| ((1 : Int32) <<< ((m.1 (x1 + 3) (Int32.toNatClampNeg x6)) &&& 31))) (x6 + (1 : Int32)) (dc_wi q1.2 (x0 + 5) (Int32.toNatClampNeg ((x2 * (16 : Int32)) + x6)) q1.1) lv1 (hv.1 _ rfl) (hv.2.1 _ rfl) (hv.2.2.1 _ rfl) (hv.2.2.2.1 _ rfl) (hv.2.2.2.2.1 _ rfl) (hv.2.2.2.2.2.1 _ rfl) (hv.2.2.2.2.2.2.1 _ rfl))
          · refine dw_g rfl ?_
            refine dg_s (pc' := 94) [.ref x0] rfl (fun _ => rfl) rfl ?_
            refine dg_s (pc' := 96) [.int (-6 : Int32), .ref x0] rfl (fun _ => rfl) rfl ?_
            refine dg_m (pc' := 99) (dc_wi q1.2 x0 1 (-6 : Int32)) [] rfl (fun _ => rfl) rfl ?_
            exact dw_r (some (.inl (none, (dc_wi q1.2 x0 1 (-6 : Int32))))) rfl (fun _ => rfl) (kR _)
        · refine dw_g rfl ?_
          refine dg_s (pc' := 49) [.ref x0] rfl (fun _ => rfl) rfl ?_
          refine dg_s (pc' := 51) [.int (-2 : Int32), .ref x0] rfl (fun _ => rfl) rfl ?_
          refine dg_m (pc' := 54) (dc_wi m x0 1 (-2 : Int32)) [] rfl (fun _ => rfl) rfl ?_
          exact dw_r (some (.inl (none, (dc_wi m x0 1 (-2 : Int32))))) rfl (fun _ => rfl) (kR _)
      · refine dw_g rfl ?_
        refine dg_s (pc' := 130) [] rfl (fun _ => rfl) rfl ?_
        refine dg_L (pc' := 133) [(6, .int (x6 + (1 : Int32))), (0, .ref x0), (1, .ref x1), (2, .int x2), (3, .int x3), (4, .int x4), (5, .int x5)] [] rfl (fun _ => rfl) rfl ?_
        refine dw_s (pc' := 16) [] rfl (fun _ => rfl) ?_
        exact dw_j rfl (fun lv1 hv => ih x4 x5 (x6 + (1 : Int32)) m lv1 (hv.1 _ rfl) (hv.2.1 _ rfl) (hv.2.2.1 _ rfl) (hv.2.2.2.1 _ rfl) (hv.2.2.2.2.1 _ rfl) (hv.2.2.2.2.2.1 _ rfl) (hv.2.2.2.2.2.2.1 _ rfl))
noncomputable def d_X7_expand (x0 : Nat) (x1 : Nat) (x2 : Int32) (m : dc_M) : Option dc_M :=
  (d_X7_expand_l16 x0 x1 x2 (m.1 (x0 + 1) (Int32.toNatClampNeg x2)) (0 : Int32) (0 : Int32) (0 : Int32) m)
set_option maxHeartbeats 8000000 in
theorem k_X7_expand {u : Nat} {N : Nat} {Φ : (Option dc_M) → Option Value → dc_M → Prop} (x0 : Nat) (x1 : Nat) (x2 : Int32) (m : dc_M) (kR : ∀  (m : dc_M), Φ (some (m)) (none) m)  {lv : ab_L} (f0 : ab_lk lv 0 = some (.ref x0)) (f1 : ab_lk lv 1 = some (.ref x1)) (f2 : ab_lk lv 2 = some (.int x2)) : dc_pv u N ab_M_X7_expand 0 lv [] m (Φ (d_X7_expand x0 x1 x2 m)) := by
  refine dc_pv.mono (dc_ok (C := C_X7_expand) (S := S_X7_expand) CO_X7_expand 400 0 [(0, .ref x0), (1, .ref x1), (2, .int x2)] lv [] m (dc_sub_cons f0 (dc_sub_cons f1 (dc_sub_cons f2 (dc_sub_nil)))) ?_) (Nat.le_succ N)
  unfold d_X7_expand
  refine dg_s (pc' := 1) [.ref x0] rfl (fun _ => rfl) rfl ?_
  refine dg_s (pc' := 4) [.ref (x0 + 1)] rfl (fun _ => rfl) rfl ?_
  refine dg_s (pc' := 5) [.int x2, .ref (x0 + 1)] rfl (fun _ => rfl) rfl ?_
  refine dg_s (pc' := 6) [.int (m.1 (x0 + 1) (Int32.toNatClampNeg x2))] rfl (fun _ => rfl) rfl ?_
  refine dg_L (pc' := 7) [(3, .int (m.1 (x0 + 1) (Int32.toNatClampNeg x2))), (0, .ref x0), (1, .ref x1), (2, .int x2)] [] rfl (fun _ => rfl) rfl ?_
  refine dg_s (pc' := 8) [.int (0 : Int32)] rfl (fun _ => rfl) rfl ?_
  refine dg_L (pc' := 10) [(4, .int (0 : Int32)), (3, .int (m.1 (x0 + 1) (Int32.toNatClampNeg x2))), (0, .ref x0), (1, .ref x1), (2, .int x2)] [] rfl (fun _ => rfl) rfl ?_
  refine dg_s (pc' := 11) [.int (0 : Int32)] rfl (fun _ => rfl) rfl ?_
  refine dg_L (pc' := 13) [(5, .int (0 : Int32)), (4, .int (0 : Int32)), (3, .int (m.1 (x0 + 1) (Int32.toNatClampNeg x2))), (0, .ref x0), (1, .ref x1), (2, .int x2)] [] rfl (fun _ => rfl) rfl ?_
  refine dg_s (pc' := 14) [.int (0 : Int32)] rfl (fun _ => rfl) rfl ?_
  refine dw_L (pc' := 16) [(6, .int (0 : Int32)), (5, .int (0 : Int32)), (4, .int (0 : Int32)), (3, .int (m.1 (x0 + 1) (Int32.toNatClampNeg x2))), (0, .ref x0), (1, .ref x1), (2, .int x2)] [] rfl (fun _ => rfl) ?_
  exact dw_j rfl (fun lv1 hv => k_X7_expand_l16 (Φ := (fun t => Φ t)) x0 x1 x2 (m.1 (x0 + 1) (Int32.toNatClampNeg x2)) (fun _b => kR _b) N  (0 : Int32) (0 : Int32) (0 : Int32) m lv1 (hv.1 _ rfl) (hv.2.1 _ rfl) (hv.2.2.1 _ rfl) (hv.2.2.2.1 _ rfl) (hv.2.2.2.2.1 _ rfl) (hv.2.2.2.2.2.1 _ rfl) (hv.2.2.2.2.2.2.1 _ rfl))
noncomputable def H_X7_expand : dc_H := fun As m k => match As with
  | [.ref x0, .ref x1, .int x2] => (d_X7_expand x0 x1 x2 m).bind (fun q => k (none) q)
  | _ => dc_kz
theorem H_X7_expand_ok {u : Nat} : dc_cok u 89 H_X7_expand := fun M' hG N As m k P hz hP => by
  obtain rfl : ab_M_X7_expand = M' := Option.some.inj hG
  unfold H_X7_expand at hP
  split at hP
  · rename_i x0 x1 x2
    exact dc_pv.imp (k_X7_expand (Φ := fun (t : Option dc_M) r m' => P (t.bind (fun q => k (none) q)) → P (k r m')) x0 x1 x2 m (fun _ h => h) rfl rfl rfl) (fun r m' h => h hP)
  · exact absurd hP hz
def C_X7_tellLevels : List (Nat × dc_H) := []
theorem CO_X7_tellLevels {u : Nat} : dc_CO u C_X7_tellLevels := dc_CO_nil
def S_X7_tellLevels : List (Nat × List Nat) := [(7, [0, 1, 2, 3, 4]), (19, [0, 1, 2, 3, 4, 5]), (107, [0, 1, 2, 3, 4, 5, 6]), (163, [0, 3, 4])]
noncomputable def d_X7_tellLevels_l163b (x0 : Nat) (x3 : Int32) (x4 : Int32) (m : dc_M) : Option ((Int32 × dc_M) ⊕ (Int32 × dc_M)) :=
  (if (Int32.toInt (m.1 x0 0)) ≤ (Int32.toInt x4) then some (Sum.inr (((1 : Int32), m))) else some (Sum.inl ((x4 + (1 : Int32)), (dc_wi m (x0 + 3) (Int32.toNatClampNeg x4) ((m.1 (x0 + 3) (Int32.toNatClampNeg x4)) ^^^ x3)))))
noncomputable def d_X7_tellLevels_l163s (x0 : Nat) (x3 : Int32) : (Int32 × dc_M) → Option ((Int32 × dc_M) ⊕ (Int32 × dc_M)) := fun s => d_X7_tellLevels_l163b x0 x3 s.1 s.2
noncomputable def d_X7_tellLevels_l163 (x0 : Nat) (x3 : Int32) (x4 : Int32) (m : dc_M) : Option (Int32 × dc_M) := dc_lp (d_X7_tellLevels_l163s x0 x3) (x4, m)
set_option maxHeartbeats 8000000 in
theorem k_X7_tellLevels_l163 {u : Nat} {Φ : (Option (Int32 × dc_M)) → Option Value → dc_M → Prop} (x0 : Nat) (x3 : Int32) (kR : ∀ (v : Int32) (m : dc_M), Φ (some ((v, m))) (some (.int v)) m) : ∀ (N : Nat), ∀ (x4 : Int32) (m : dc_M) (lv : ab_L), ab_lk lv 0 = some (.ref x0) → ab_lk lv 3 = some (.int x3) → ab_lk lv 4 = some (.int x4) → dc_pv u N ab_M_X7_tellLevels 163 lv [] m (Φ (d_X7_tellLevels_l163 x0 x3 x4 m)) := by
  intro N
  induction N with
  | zero => intros; exact dc_pv_zero
  | succ N ih =>
    intro x4 m lv f0 f3 f4
    refine dc_ok (C := C_X7_tellLevels) (S := S_X7_tellLevels) CO_X7_tellLevels 400 163 [(0, .ref x0), (3, .int x3), (4, .int x4)] lv [] m (dc_sub_cons f0 (dc_sub_cons f3 (dc_sub_cons f4 (dc_sub_nil)))) ?_
    unfold d_X7_tellLevels_l163
    rw [dc_lp_eq]
    show (fun t x => dc_lf u N ab_M_X7_tellLevels (Φ (Option.bind t (dc_bk (d_X7_tellLevels_l163s x0 x3)))) x) (d_X7_tellLevels_l163b x0 x3 x4 m) _
    dsimp only
    unfold d_X7_tellLevels_l163b
    refine dg_s (pc' := 165) [.int x4] rfl (fun _ => rfl) rfl ?_
    refine dg_s (pc' := 166) [.ref x0, .int x4] rfl (fun _ => rfl) rfl ?_
    refine dg_s (pc' := 169) [.int (m.1 x0 0), .int x4] rfl (fun _ => rfl) rfl ?_
    refine dw_if (fun t => Φ (Option.bind t (dc_bk (d_X7_tellLevels_l163s x0 x3)))) ((Int32.toInt (m.1 x0 0)) ≤ (Int32.toInt x4)) [] 189 172 rfl (fun _ => rfl) (fun c0 => ?_) (fun c0 => ?_)
    · refine dw_g rfl ?_
      refine dg_s (pc' := 190) [.int (1 : Int32)] rfl (fun _ => rfl) rfl ?_
      exact dw_r (some (.inl (some (.int (1 : Int32)), m))) rfl (fun _ => rfl) (kR _ _)
    · refine dw_g rfl ?_
      refine dg_s (pc' := 173) [.ref x0] rfl (fun _ => rfl) rfl ?_
      refine dg_s (pc' := 176) [.ref (x0 + 3)] rfl (fun _ => rfl) rfl ?_
      refine dg_s (pc' := 178) [.int x4, .ref (x0 + 3)] rfl (fun _ => rfl) rfl ?_
      refine dg_s (pc' := 179) [.int x4, .ref (x0 + 3), .int x4, .ref (x0 + 3)] rfl (fun _ => rfl) rfl ?_
      refine dg_s (pc' := 180) [.int (m.1 (x0 + 3) (Int32.toNatClampNeg x4)), .int x4, .ref (x0 + 3)] rfl (fun _ => rfl) rfl ?_
      refine dg_s (pc' := 181) [.int x3, .int (m.1 (x0 + 3) (Int32.toNatClampNeg x4)), .int x4, .ref (x0 + 3)] rfl (fun _ => rfl) rfl ?_
      refine dg_s (pc' := 182) [.int ((m.1 (x0 + 3) (Int32.toNatClampNeg x4)) ^^^ x3), .int x4, .ref (x0 + 3)] rfl (fun _ => rfl) rfl ?_
      refine dg_m (pc' := 183) (dc_wi m (x0 + 3) (Int32.toNatClampNeg x4) ((m.1 (x0 + 3) (Int32.toNatClampNeg x4)) ^^^ x3)) [] rfl (fun _ => rfl) rfl ?_
      refine dg_L (pc' := 186) [(4, .int (x4 + (1 : Int32))), (0, .ref x0), (3, .int x3)] [] rfl (fun _ => rfl) rfl ?_
      refine dw_s (pc' := 163) [] rfl (fun _ => rfl) ?_
      exact dw_j rfl (fun lv1 hv => ih (x4 + (1 : Int32)) (dc_wi m (x0 + 3) (Int32.toNatClampNeg x4) ((m.1 (x0 + 3) (Int32.toNatClampNeg x4)) ^^^ x3)) lv1 (hv.1 _ rfl) (hv.2.1 _ rfl) (hv.2.2.1 _ rfl))
noncomputable def d_X7_tellLevels_b107 (x0 : Nat) (x1 : Nat) (x2 : Int32) (x3 : Int32) (x4 : Int32) (x5 : Int32) (x6 : Int32) (s0 : Int32) (m : dc_M) : Option ((Int32 × Int32 × Int32) ⊕ ((Int32 × Int32 × Int32) ⊕ (Int32 × dc_M))) :=
  (if (Int32.toInt (x2 &&& x6)) = 0 then some (Sum.inl ((x2 ||| x6), (x3 ||| (s0 ^^^ ((m.1 (x0 + 3) (Int32.toNatClampNeg x4)) &&& x6))), (x5 + (1 : Int32)))) else (if (Int32.toInt (x3 &&& x6)) = (Int32.toInt (s0 ^^^ ((m.1 (x0 + 3) (Int32.toNatClampNeg x4)) &&& x6))) then some (Sum.inl ((x2 ||| x6), (x3 ||| (s0 ^^^ ((m.1 (x0 + 3) (Int32.toNatClampNeg x4)) &&& x6))), (x5 + (1 : Int32)))) else some (Sum.inr (Sum.inr (((0 : Int32), m))))))
set_option maxHeartbeats 8000000 in
theorem k_X7_tellLevels_b107 {u : Nat} {N : Nat} {Φ : (Option ((Int32 × Int32 × Int32) ⊕ ((Int32 × Int32 × Int32) ⊕ (Int32 × dc_M)))) → Option Value → dc_M → Prop} (x0 : Nat) (x1 : Nat) (x2 : Int32) (x3 : Int32) (x4 : Int32) (x5 : Int32) (x6 : Int32) (s0 : Int32) (m : dc_M) (kR : ∀ (v : Int32) (m : dc_M), Φ (some (Sum.inr (Sum.inr ((v, m))))) (some (.int v)) m) (k19 : ∀ (x2 : Int32) (x3 : Int32) (x5 : Int32) (lv : ab_L), ab_lk lv 0 = some (.ref x0) → ab_lk lv 1 = some (.ref x1) → ab_lk lv 2 = some (.int x2) → ab_lk lv 3 = some (.int x3) → ab_lk lv 4 = some (.int x4) → ab_lk lv 5 = some (.int x5) →  dc_pv u N ab_M_X7_tellLevels 19 lv [] m (Φ (some (Sum.inl (x2, x3, x5))))) (k7 : ∀ (x2 : Int32) (x3 : Int32) (x4 : Int32) (lv : ab_L), ab_lk lv 0 = some (.ref x0) → ab_lk lv 1 = some (.ref x1) → ab_lk lv 2 = some (.int x2) → ab_lk lv 3 = some (.int x3) → ab_lk lv 4 = some (.int x4) →  dc_pv u N ab_M_X7_tellLevels 7 lv [] m (Φ (some (Sum.inr (Sum.inl (x2, x3, x4)))))) {lv : ab_L} (f0 : ab_lk lv 0 = some (.ref x0)) (f1 : ab_lk lv 1 = some (.ref x1)) (f2 : ab_lk lv 2 = some (.int x2)) (f3 : ab_lk lv 3 = some (.int x3)) (f4 : ab_lk lv 4 = some (.int x4)) (f5 : ab_lk lv 5 = some (.int x5)) (f6 : ab_lk lv 6 = some (.int x6)) : dc_pv u N ab_M_X7_tellLevels 107 lv [.int s0] m (Φ (d_X7_tellLevels_b107 x0 x1 x2 x3 x4 x5 x6 s0 m)) := by
  refine dc_pv.mono (dc_ok (C := C_X7_tellLevels) (S := S_X7_tellLevels) CO_X7_tellLevels 400 107 [(0, .ref x0), (1, .ref x1), (2, .int x2), (3, .int x3), (4, .int x4), (5, .int x5), (6, .int x6)] lv [.int s0] m (dc_sub_cons f0 (dc_sub_cons f1 (dc_sub_cons f2 (dc_sub_cons f3 (dc_sub_cons f4 (dc_sub_cons f5 (dc_sub_cons f6 (dc_sub_nil)))))))) ?_) (Nat.le_succ N)
  unfold d_X7_tellLevels_b107
  refine dg_s (pc' := 108) [.ref x0, .int s0] rfl (fun _ => rfl) rfl ?_
  refine dg_s (pc' := 111) [.ref (x0 + 3), .int s0] rfl (fun _ => rfl) rfl ?_
  refine dg_s (pc' := 113) [.int x4, .ref (x0 + 3), .int s0] rfl (fun _ => rfl) rfl ?_
  refine dg_s (pc' := 114) [.int (m.1 (x0 + 3) (Int32.toNatClampNeg x4)), .int s0] rfl (fun _ => rfl) rfl ?_
  refine dg_s (pc' := 116) [.int x6, .int (m.1 (x0 + 3) (Int32.toNatClampNeg x4)), .int s0] rfl (fun _ => rfl) rfl ?_
  refine dg_s (pc' := 117) [.int ((m.1 (x0 + 3) (Int32.toNatClampNeg x4)) &&& x6), .int s0] rfl (fun _ => rfl) rfl ?_
  refine dg_s (pc' := 118) [.int (s0 ^^^ ((m.1 (x0 + 3) (Int32.toNatClampNeg x4)) &&& x6))] rfl (fun _ => rfl) rfl ?_
  refine dg_L (pc' := 120) [(7, .int (s0 ^^^ ((m.1 (x0 + 3) (Int32.toNatClampNeg x4)) &&& x6))), (0, .ref x0), (1, .ref x1), (2, .int x2), (3, .int x3), (4, .int x4), (5, .int x5), (6, .int x6)] [] rfl (fun _ => rfl) rfl ?_
  refine dg_s (pc' := 121) [.int x2] rfl (fun _ => rfl) rfl ?_
  refine dg_s (pc' := 123) [.int x6, .int x2] rfl (fun _ => rfl) rfl ?_
  refine dg_s (pc' := 124) [.int (x2 &&& x6)] rfl (fun _ => rfl) rfl ?_
  refine dw_if (fun t => Φ t) ((Int32.toInt (x2 &&& x6)) = 0) [] 138 127 rfl (fun _ => rfl) (fun c0 => ?_) (fun c0 => ?_)
  · refine dw_g rfl ?_
    refine dg_s (pc' := 139) [.int x2] rfl (fun _ => rfl) rfl ?_
    refine dg_s (pc' := 141) [.int x6, .int x2] rfl (fun _ => rfl) rfl ?_
    refine dg_s (pc' := 142) [.int (x2 ||| x6)] rfl (fun _ => rfl) rfl ?_
    refine dg_L (pc' := 143) [(2, .int (x2 ||| x6)), (7, .int (s0 ^^^ ((m.1 (x0 + 3) (Int32.toNatClampNeg x4)) &&& x6))), (0, .ref x0), (1, .ref x1), (3, .int x3), (4, .int x4), (5, .int x5), (6, .int x6)] [] rfl (fun _ => rfl) rfl ?_
    refine dg_s (pc' := 144) [.int x3] rfl (fun _ => rfl) rfl ?_
    refine dg_s (pc' := 146) [.int (s0 ^^^ ((m.1 (x0 + 3) (Int32.toNatClampNeg x4)) &&& x6)), .int x3] rfl (fun _ => rfl) rfl ?_
    refine dg_s (pc' := 147) [.int (x3 ||| (s0 ^^^ ((m.1 (x0 + 3) (Int32.toNatClampNeg x4)) &&& x6)))] rfl (fun _ => rfl) rfl ?_
    refine dg_L (pc' := 148) [(3, .int (x3 ||| (s0 ^^^ ((m.1 (x0 + 3) (Int32.toNatClampNeg x4)) &&& x6)))), (2, .int (x2 ||| x6)), (7, .int (s0 ^^^ ((m.1 (x0 + 3) (Int32.toNatClampNeg x4)) &&& x6))), (0, .ref x0), (1, .ref x1), (4, .int x4), (5, .int x5), (6, .int x6)] [] rfl (fun _ => rfl) rfl ?_
    refine dg_L (pc' := 151) [(5, .int (x5 + (1 : Int32))), (3, .int (x3 ||| (s0 ^^^ ((m.1 (x0 + 3) (Int32.toNatClampNeg x4)) &&& x6)))), (2, .int (x2 ||| x6)), (7, .int (s0 ^^^ ((m.1 (x0 + 3) (Int32.toNatClampNeg x4)) &&& x6))), (0, .ref x0), (1, .ref x1), (4, .int x4), (6, .int x6)] [] rfl (fun _ => rfl) rfl ?_
    refine dw_s (pc' := 19) [] rfl (fun _ => rfl) ?_
    exact dw_j rfl (fun lv1 hv => k19 (x2 ||| x6) (x3 ||| (s0 ^^^ ((m.1 (x0 + 3) (Int32.toNatClampNeg x4)) &&& x6))) (x5 + (1 : Int32)) lv1 (hv.1 _ rfl) (hv.2.1 _ rfl) (hv.2.2.1 _ rfl) (hv.2.2.2.1 _ rfl) (hv.2.2.2.2.1 _ rfl) (hv.2.2.2.2.2.1 _ rfl))
  · refine dw_g rfl ?_
    refine dg_s (pc' := 128) [.int x3] rfl (fun _ => rfl) rfl ?_
    refine dg_s (pc' := 130) [.int x6, .int x3] rfl (fun _ => rfl) rfl ?_
    refine dg_s (pc' := 131) [.int (x3 &&& x6)] rfl (fun _ => rfl) rfl ?_
    refine dg_s (pc' := 133) [.int (s0 ^^^ ((m.1 (x0 + 3) (Int32.toNatClampNeg x4)) &&& x6)), .int (x3 &&& x6)] rfl (fun _ => rfl) rfl ?_
    refine dw_if (fun t => Φ t) ((Int32.toInt (x3 &&& x6)) = (Int32.toInt (s0 ^^^ ((m.1 (x0 + 3) (Int32.toNatClampNeg x4)) &&& x6)))) [] 138 136 rfl (fun _ => rfl) (fun c1 => ?_) (fun c1 => ?_)
    · refine dw_g rfl ?_
      refine dg_s (pc' := 139) [.int x2] rfl (fun _ => rfl) rfl ?_
      refine dg_s (pc' := 141) [.int x6, .int x2] rfl (fun _ => rfl) rfl ?_
      refine dg_s (pc' := 142) [.int (x2 ||| x6)] rfl (fun _ => rfl) rfl ?_
      refine dg_L (pc' := 143) [(2, .int (x2 ||| x6)), (7, .int (s0 ^^^ ((m.1 (x0 + 3) (Int32.toNatClampNeg x4)) &&& x6))), (0, .ref x0), (1, .ref x1), (3, .int x3), (4, .int x4), (5, .int x5), (6, .int x6)] [] rfl (fun _ => rfl) rfl ?_
      refine dg_s (pc' := 144) [.int x3] rfl (fun _ => rfl) rfl ?_
      refine dg_s (pc' := 146) [.int (s0 ^^^ ((m.1 (x0 + 3) (Int32.toNatClampNeg x4)) &&& x6)), .int x3] rfl (fun _ => rfl) rfl ?_
      refine dg_s (pc' := 147) [.int (x3 ||| (s0 ^^^ ((m.1 (x0 + 3) (Int32.toNatClampNeg x4)) &&& x6)))] rfl (fun _ => rfl) rfl ?_
      refine dg_L (pc' := 148) [(3, .int (x3 ||| (s0 ^^^ ((m.1 (x0 + 3) (Int32.toNatClampNeg x4)) &&& x6)))), (2, .int (x2 ||| x6)), (7, .int (s0 ^^^ ((m.1 (x0 + 3) (Int32.toNatClampNeg x4)) &&& x6))), (0, .ref x0), (1, .ref x1), (4, .int x4), (5, .int x5), (6, .int x6)] [] rfl (fun _ => rfl) rfl ?_
      refine dg_L (pc' := 151) [(5, .int (x5 + (1 : Int32))), (3, .int (x3 ||| (s0 ^^^ ((m.1 (x0 + 3) (Int32.toNatClampNeg x4)) &&& x6)))), (2, .int (x2 ||| x6)), (7, .int (s0 ^^^ ((m.1 (x0 + 3) (Int32.toNatClampNeg x4)) &&& x6))), (0, .ref x0), (1, .ref x1), (4, .int x4), (6, .int x6)] [] rfl (fun _ => rfl) rfl ?_
      refine dw_s (pc' := 19) [] rfl (fun _ => rfl) ?_
      exact dw_j rfl (fun lv1 hv => k19 (x2 ||| x6) (x3 ||| (s0 ^^^ ((m.1 (x0 + 3) (Int32.toNatClampNeg x4)) &&& x6))) (x5 + (1 : Int32)) lv1 (hv.1 _ rfl) (hv.2.1 _ rfl) (hv.2.2.1 _ rfl) (hv.2.2.2.1 _ rfl) (hv.2.2.2.2.1 _ rfl) (hv.2.2.2.2.2.1 _ rfl))
    · refine dw_g rfl ?_
      refine dg_s (pc' := 137) [.int (0 : Int32)] rfl (fun _ => rfl) rfl ?_
      exact dw_r (some (.inl (some (.int (0 : Int32)), m))) rfl (fun _ => rfl) (kR _ _)
noncomputable def d_X7_tellLevels_l19b (x0 : Nat) (x1 : Nat) (x4 : Int32) (x2 : Int32) (x3 : Int32) (x5 : Int32) (m : dc_M) : Option ((Int32 × Int32 × Int32) ⊕ ((Int32 × Int32 × Int32) ⊕ (Int32 × dc_M))) :=
  (if (Int32.toInt (m.1 x1 1)) ≤ (Int32.toInt x5) then some (Sum.inr (Sum.inl (x2, x3, (x4 + (1 : Int32))))) else (if ¬ (Int32.toInt (((m.1 (x0 + 2) (Int32.toNatClampNeg x4)) >>> (x5 &&& 31)) &&& (1 : Int32))) = 0 then (if (Int32.toInt ((m.1 (x0 + 3) (Int32.toNatClampNeg x4)) ^^^ ((1 : Int32) <<< ((m.1 (x1 + 3) (Int32.toNatClampNeg x5)) &&& 31)))) = (Int32.toInt (m.1 (x0 + 3) (Int32.toNatClampNeg (m.1 (x0 + 5) (Int32.toNatClampNeg ((x4 * (16 : Int32)) + x5)))))) then (if ¬ (Int32.toInt (m.1 (x1 + 4) (Int32.toNatClampNeg x5))) = 1 then (d_X7_tellLevels_b107 x0 x1 x2 x3 x4 x5 ((1 : Int32) <<< ((m.1 (x1 + 3) (Int32.toNatClampNeg x5)) &&& 31)) ((1 : Int32) <<< ((m.1 (x1 + 3) (Int32.toNatClampNeg x5)) &&& 31)) m) else (d_X7_tellLevels_b107 x0 x1 x2 x3 x4 x5 ((1 : Int32) <<< ((m.1 (x1 + 3) (Int32.toNatClampNeg x5)) &&& 31)) (0 : Int32) m)) else some (Sum.inr (Sum.inr (((0 : Int32), m))))) else some (Sum.inl (x2, x3, (x5 + (1 : Int32))))))
noncomputable def d_X7_tellLevels_l19s (x0 : Nat) (x1 : Nat) (x4 : Int32) (m : dc_M) : (Int32 × Int32 × Int32) → Option ((Int32 × Int32 × Int32) ⊕ ((Int32 × Int32 × Int32) ⊕ (Int32 × dc_M))) := fun s => d_X7_tellLevels_l19b x0 x1 x4 s.1 s.2.1 s.2.2 m
noncomputable def d_X7_tellLevels_l19 (x0 : Nat) (x1 : Nat) (x4 : Int32) (x2 : Int32) (x3 : Int32) (x5 : Int32) (m : dc_M) : Option ((Int32 × Int32 × Int32) ⊕ (Int32 × dc_M)) := dc_lp (d_X7_tellLevels_l19s x0 x1 x4 m) (x2, x3, x5)
set_option maxHeartbeats 8000000 in
theorem k_X7_tellLevels_l19 {u : Nat} {Φ : (Option ((Int32 × Int32 × Int32) ⊕ (Int32 × dc_M))) → Option Value → dc_M → Prop} (x0 : Nat) (x1 : Nat) (x4 : Int32) (m : dc_M) (kR : ∀ (v : Int32) (m : dc_M), Φ (some (Sum.inr ((v, m)))) (some (.int v)) m) : ∀ (N : Nat), (∀ (x2 : Int32) (x3 : Int32) (x4 : Int32) (lv : ab_L), ab_lk lv 0 = some (.ref x0) → ab_lk lv 1 = some (.ref x1) → ab_lk lv 2 = some (.int x2) → ab_lk lv 3 = some (.int x3) → ab_lk lv 4 = some (.int x4) →  dc_pv u N ab_M_X7_tellLevels 7 lv [] m (Φ (some (Sum.inl (x2, x3, x4))))) → ∀ (x2 : Int32) (x3 : Int32) (x5 : Int32) (lv : ab_L), ab_lk lv 0 = some (.ref x0) → ab_lk lv 1 = some (.ref x1) → ab_lk lv 2 = some (.int x2) → ab_lk lv 3 = some (.int x3) → ab_lk lv 4 = some (.int x4) → ab_lk lv 5 = some (.int x5) → dc_pv u N ab_M_X7_tellLevels 19 lv [] m (Φ (d_X7_tellLevels_l19 x0 x1 x4 x2 x3 x5 m)) := by
  intro N
  induction N with
  | zero => intros; exact dc_pv_zero
  | succ N ih =>
    intro k7 x2 x3 x5 lv f0 f1 f2 f3 f4 f5
    have k7 := fun a0 a1 a2 a3 a4 a5 a6 a7 a8 => (k7 a0 a1 a2 a3 a4 a5 a6 a7 a8).mono (Nat.le_succ N)
    have ih := ih k7
    refine dc_ok (C := C_X7_tellLevels) (S := S_X7_tellLevels) CO_X7_tellLevels 400 19 [(0, .ref x0), (1, .ref x1), (2, .int x2), (3, .int x3), (4, .int x4), (5, .int x5)] lv [] m (dc_sub_cons f0 (dc_sub_cons f1 (dc_sub_cons f2 (dc_sub_cons f3 (dc_sub_cons f4 (dc_sub_cons f5 (dc_sub_nil))))))) ?_
    unfold d_X7_tellLevels_l19
    rw [dc_lp_eq]
    show (fun t x => dc_lf u N ab_M_X7_tellLevels (Φ (Option.bind t (dc_bk (d_X7_tellLevels_l19s x0 x1 x4 m)))) x) (d_X7_tellLevels_l19b x0 x1 x4 x2 x3 x5 m) _
    dsimp only
    unfold d_X7_tellLevels_l19b
    refine dg_s (pc' := 21) [.int x5] rfl (fun _ => rfl) rfl ?_
    refine dg_s (pc' := 22) [.ref x1, .int x5] rfl (fun _ => rfl) rfl ?_
    refine dg_s (pc' := 25) [.int (m.1 x1 1), .int x5] rfl (fun _ => rfl) rfl ?_
    refine dw_if (fun t => Φ (Option.bind t (dc_bk (d_X7_tellLevels_l19s x0 x1 x4 m)))) ((Int32.toInt (m.1 x1 1)) ≤ (Int32.toInt x5)) [] 154 28 rfl (fun _ => rfl) (fun c0 => ?_) (fun c0 => ?_)
    · refine dw_g rfl ?_
      refine dg_L (pc' := 157) [(4, .int (x4 + (1 : Int32))), (0, .ref x0), (1, .ref x1), (2, .int x2), (3, .int x3), (5, .int x5)] [] rfl (fun _ => rfl) rfl ?_
      refine dw_s (pc' := 7) [] rfl (fun _ => rfl) ?_
      exact dw_j rfl (fun lv1 hv => k7 x2 x3 (x4 + (1 : Int32)) lv1 (hv.1 _ rfl) (hv.2.1 _ rfl) (hv.2.2.1 _ rfl) (hv.2.2.2.1 _ rfl) (hv.2.2.2.2.1 _ rfl))
    · refine dw_g rfl ?_
      refine dg_s (pc' := 29) [.ref x0] rfl (fun _ => rfl) rfl ?_
      refine dg_s (pc' := 32) [.ref (x0 + 2)] rfl (fun _ => rfl) rfl ?_
      refine dg_s (pc' := 34) [.int x4, .ref (x0 + 2)] rfl (fun _ => rfl) rfl ?_
      refine dg_s (pc' := 35) [.int (m.1 (x0 + 2) (Int32.toNatClampNeg x4))] rfl (fun _ => rfl) rfl ?_
      refine dg_s (pc' := 37) [.int x5, .int (m.1 (x0 + 2) (Int32.toNatClampNeg x4))] rfl (fun _ => rfl) rfl ?_
      refine dg_s (pc' := 38) [.int ((m.1 (x0 + 2) (Int32.toNatClampNeg x4)) >>> (x5 &&& 31))] rfl (fun _ => rfl) rfl ?_
      refine dg_s (pc' := 39) [.int (1 : Int32), .int ((m.1 (x0 + 2) (Int32.toNatClampNeg x4)) >>> (x5 &&& 31))] rfl (fun _ => rfl) rfl ?_
      refine dg_s (pc' := 40) [.int (((m.1 (x0 + 2) (Int32.toNatClampNeg x4)) >>> (x5 &&& 31)) &&& (1 : Int32))] rfl (fun _ => rfl) rfl ?_
      refine dw_if (fun t => Φ (Option.bind t (dc_bk (d_X7_tellLevels_l19s x0 x1 x4 m)))) (¬ (Int32.toInt (((m.1 (x0 + 2) (Int32.toNatClampNeg x4)) >>> (x5 &&& 31)) &&& (1 : Int32))) = 0) [] 46 43 rfl (fun _ => rfl) (fun c1 => ?_) (fun c1 => ?_)
      · refine dw_g rfl ?_
        refine dg_s (pc' := 47) [.int (1 : Int32)] rfl (fun _ => rfl) rfl ?_
        refine dg_s (pc' := 48) [.ref x1, .int (1 : Int32)] rfl (fun _ => rfl) rfl ?_
        refine dg_s (pc' := 51) [.ref (x1 + 3), .int (1 : Int32)] rfl (fun _ => rfl) rfl ?_
        refine dg_s (pc' := 53) [.int x5, .ref (x1 + 3), .int (1 : Int32)] rfl (fun _ => rfl) rfl ?_
        refine dg_s (pc' := 54) [.int (m.1 (x1 + 3) (Int32.toNatClampNeg x5)), .int (1 : Int32)] rfl (fun _ => rfl) rfl ?_
        refine dg_s (pc' := 55) [.int ((1 : Int32) <<< ((m.1 (x1 + 3) (Int32.toNatClampNeg x5)) &&& 31))] rfl (fun _ => rfl) rfl ?_
        refine dg_L (pc' := 57) [(6, .int ((1 : Int32) <<< ((m.1 (x1 + 3) (Int32.toNatClampNeg x5)) &&& 31))), (0, .ref x0), (1, .ref x1), (2, .int x2), (3, .int x3), (4, .int x4), (5, .int x5)] [] rfl (fun _ => rfl) rfl ?_
        refine dg_s (pc' := 58) [.ref x0] rfl (fun _ => rfl) rfl ?_
        refine dg_s (pc' := 61) [.ref (x0 + 3)] rfl (fun _ => rfl) rfl ?_
        refine dg_s (pc' := 63) [.int x4, .ref (x0 + 3)] rfl (fun _ => rfl) rfl ?_
        refine dg_s (pc' := 64) [.int (m.1 (x0 + 3) (Int32.toNatClampNeg x4))] rfl (fun _ => rfl) rfl ?_
        refine dg_s (pc' := 66) [.int ((1 : Int32) <<< ((m.1 (x1 + 3) (Int32.toNatClampNeg x5)) &&& 31)), .int (m.1 (x0 + 3) (Int32.toNatClampNeg x4))] rfl (fun _ => rfl) rfl ?_
        refine dg_s (pc' := 67) [.int ((m.1 (x0 + 3) (Int32.toNatClampNeg x4)) ^^^ ((1 : Int32) <<< ((m.1 (x1 + 3) (Int32.toNatClampNeg x5)) &&& 31)))] rfl (fun _ => rfl) rfl ?_
        refine dg_s (pc' := 68) [.ref x0, .int ((m.1 (x0 + 3) (Int32.toNatClampNeg x4)) ^^^ ((1 : Int32) <<< ((m.1 (x1 + 3) (Int32.toNatClampNeg x5)) &&& 31)))] rfl (fun _ => rfl) rfl ?_
        refine dg_s (pc' := 71) [.ref (x0 + 3), .int ((m.1 (x0 + 3) (Int32.toNatClampNeg x4)) ^^^ ((1 : Int32) <<< ((m.1 (x1 + 3) (Int32.toNatClampNeg x5)) &&& 31)))] rfl (fun _ => rfl) rfl ?_
        refine dg_s (pc' := 72) [.ref x0, .ref (x0 + 3), .int ((m.1 (x0 + 3) (Int32.toNatClampNeg x4)) ^^^ ((1 : Int32) <<< ((m.1 (x1 + 3) (Int32.toNatClampNeg x5)) &&& 31)))] rfl (fun _ => rfl) rfl ?_
        refine dg_s (pc' := 75) [.ref (x0 + 5), .ref (x0 + 3), .int ((m.1 (x0 + 3) (Int32.toNatClampNeg x4)) ^^^ ((1 : Int32) <<< ((m.1 (x1 + 3) (Int32.toNatClampNeg x5)) &&& 31)))] rfl (fun _ => rfl) rfl ?_
        refine dg_s (pc' := 77) [.int x4, .ref (x0 + 5), .ref (x0 + 3), .int ((m.1 (x0 + 3) (Int32.toNatClampNeg x4)) ^^^ ((1 : Int32) <<< ((m.1 (x1 + 3) (Int32.toNatClampNeg x5)) &&& 31)))] rfl (fun _ => rfl) rfl ?_
        refine dg_s (pc' := 79) [.int (16 : Int32), .int x4, .ref (x0 + 5), .ref (x0 + 3), .int ((m.1 (x0 + 3) (Int32.toNatClampNeg x4)) ^^^ ((1 : Int32) <<< ((m.1 (x1 + 3) (Int32.toNatClampNeg x5)) &&& 31)))] rfl (fun _ => rfl) rfl ?_
        refine dg_s (pc' := 80) [.int (x4 * (16 : Int32)), .ref (x0 + 5), .ref (x0 + 3), .int ((m.1 (x0 + 3) (Int32.toNatClampNeg x4)) ^^^ ((1 : Int32) <<< ((m.1 (x1 + 3) (Int32.toNatClampNeg x5)) &&& 31)))] rfl (fun _ => rfl) rfl ?_
        refine dg_s (pc' := 82) [.int x5, .int (x4 * (16 : Int32)), .ref (x0 + 5), .ref (x0 + 3), .int ((m.1 (x0 + 3) (Int32.toNatClampNeg x4)) ^^^ ((1 : Int32) <<< ((m.1 (x1 + 3) (Int32.toNatClampNeg x5)) &&& 31)))] rfl (fun _ => rfl) rfl ?_
        refine dg_s (pc' := 83) [.int ((x4 * (16 : Int32)) + x5), .ref (x0 + 5), .ref (x0 + 3), .int ((m.1 (x0 + 3) (Int32.toNatClampNeg x4)) ^^^ ((1 : Int32) <<< ((m.1 (x1 + 3) (Int32.toNatClampNeg x5)) &&& 31)))] rfl (fun _ => rfl) rfl ?_
        refine dg_s (pc' := 84) [.int (m.1 (x0 + 5) (Int32.toNatClampNeg ((x4 * (16 : Int32)) + x5))), .ref (x0 + 3), .int ((m.1 (x0 + 3) (Int32.toNatClampNeg x4)) ^^^ ((1 : Int32) <<< ((m.1 (x1 + 3) (Int32.toNatClampNeg x5)) &&& 31)))] rfl (fun _ => rfl) rfl ?_
        refine dg_s (pc' := 85) [.int (m.1 (x0 + 3) (Int32.toNatClampNeg (m.1 (x0 + 5) (Int32.toNatClampNeg ((x4 * (16 : Int32)) + x5))))), .int ((m.1 (x0 + 3) (Int32.toNatClampNeg x4)) ^^^ ((1 : Int32) <<< ((m.1 (x1 + 3) (Int32.toNatClampNeg x5)) &&& 31)))] rfl (fun _ => rfl) rfl ?_
        refine dw_if (fun t => Φ (Option.bind t (dc_bk (d_X7_tellLevels_l19s x0 x1 x4 m)))) ((Int32.toInt ((m.1 (x0 + 3) (Int32.toNatClampNeg x4)) ^^^ ((1 : Int32) <<< ((m.1 (x1 + 3) (Int32.toNatClampNeg x5)) &&& 31)))) = (Int32.toInt (m.1 (x0 + 3) (Int32.toNatClampNeg (m.1 (x0 + 5) (Int32.toNatClampNeg ((x4 * (16 : Int32)) + x5))))))) [] 90 88 rfl (fun _ => rfl) (fun c2 => ?_) (fun c2 => ?_)
        · refine dw_g rfl ?_
          refine dg_s (pc' := 91) [.ref x1] rfl (fun _ => rfl) rfl ?_
          refine dg_s (pc' := 94) [.ref (x1 + 4)] rfl (fun _ => rfl) rfl ?_
          refine dg_s (pc' := 96) [.int x5, .ref (x1 + 4)] rfl (fun _ => rfl) rfl ?_
          refine dg_s (pc' := 97) [.int (m.1 (x1 + 4) (Int32.toNatClampNeg x5))] rfl (fun _ => rfl) rfl ?_
          refine dg_s (pc' := 98) [.int (1 : Int32), .int (m.1 (x1 + 4) (Int32.toNatClampNeg x5))] rfl (fun _ => rfl) rfl ?_
          refine dw_if (fun t => Φ (Option.bind t (dc_bk (d_X7_tellLevels_l19s x0 x1 x4 m)))) (¬ (Int32.toInt (m.1 (x1 + 4) (Int32.toNatClampNeg x5))) = 1) [] 105 101 rfl (fun _ => rfl) (fun c3 => ?_) (fun c3 => ?_)
          · refine dw_g rfl ?_
            refine dw_s (pc' := 107) [.int ((1 : Int32) <<< ((m.1 (x1 + 3) (Int32.toNatClampNeg x5)) &&& 31))] rfl (fun _ => rfl) ?_
            exact dw_j rfl (fun lv1 hv => k_X7_tellLevels_b107 (Φ := (fun t => Φ (Option.bind t (dc_bk (d_X7_tellLevels_l19s x0 x1 x4 m))))) x0 x1 x2 x3 x4 x5 ((1 : Int32) <<< ((m.1 (x1 + 3) (Int32.toNatClampNeg x5)) &&& 31)) ((1 : Int32) <<< ((m.1 (x1 + 3) (Int32.toNatClampNeg x5)) &&& 31)) m (fun _a _b => kR _a _b) ih k7 (hv.1 _ rfl) (hv.2.1 _ rfl) (hv.2.2.1 _ rfl) (hv.2.2.2.1 _ rfl) (hv.2.2.2.2.1 _ rfl) (hv.2.2.2.2.2.1 _ rfl) (hv.2.2.2.2.2.2.1 _ rfl))
          · refine dw_g rfl ?_
            refine dg_s (pc' := 102) [.int (0 : Int32)] rfl (fun _ => rfl) rfl ?_
            refine dw_s (pc' := 107) [.int (0 : Int32)] rfl (fun _ => rfl) ?_
            exact dw_j rfl (fun lv1 hv => k_X7_tellLevels_b107 (Φ := (fun t => Φ (Option.bind t (dc_bk (d_X7_tellLevels_l19s x0 x1 x4 m))))) x0 x1 x2 x3 x4 x5 ((1 : Int32) <<< ((m.1 (x1 + 3) (Int32.toNatClampNeg x5)) &&& 31)) (0 : Int32) m (fun _a _b => kR _a _b) ih k7 (hv.1 _ rfl) (hv.2.1 _ rfl) (hv.2.2.1 _ rfl) (hv.2.2.2.1 _ rfl) (hv.2.2.2.2.1 _ rfl) (hv.2.2.2.2.2.1 _ rfl) (hv.2.2.2.2.2.2.1 _ rfl))
        · refine dw_g rfl ?_
          refine dg_s (pc' := 89) [.int (0 : Int32)] rfl (fun _ => rfl) rfl ?_
          exact dw_r (some (.inl (some (.int (0 : Int32)), m))) rfl (fun _ => rfl) (kR _ _)
      · refine dw_g rfl ?_
        refine dg_s (pc' := 148) [] rfl (fun _ => rfl) rfl ?_
        refine dg_L (pc' := 151) [(5, .int (x5 + (1 : Int32))), (0, .ref x0), (1, .ref x1), (2, .int x2), (3, .int x3), (4, .int x4)] [] rfl (fun _ => rfl) rfl ?_
        refine dw_s (pc' := 19) [] rfl (fun _ => rfl) ?_
        exact dw_j rfl (fun lv1 hv => ih x2 x3 (x5 + (1 : Int32)) lv1 (hv.1 _ rfl) (hv.2.1 _ rfl) (hv.2.2.1 _ rfl) (hv.2.2.2.1 _ rfl) (hv.2.2.2.2.1 _ rfl) (hv.2.2.2.2.2.1 _ rfl))
noncomputable def d_X7_tellLevels_l7b (x0 : Nat) (x1 : Nat) (x2 : Int32) (x3 : Int32) (x4 : Int32) (m : dc_M) : Option ((Int32 × Int32 × Int32) ⊕ (Int32 × dc_M)) :=
  (if (Int32.toInt (m.1 x0 0)) ≤ (Int32.toInt x4) then ((d_X7_tellLevels_l163 x0 x3 (0 : Int32) m).map (fun z => Sum.inr (z))) else (d_X7_tellLevels_l19 x0 x1 x4 x2 x3 (0 : Int32) m))
noncomputable def d_X7_tellLevels_l7s (x0 : Nat) (x1 : Nat) (m : dc_M) : (Int32 × Int32 × Int32) → Option ((Int32 × Int32 × Int32) ⊕ (Int32 × dc_M)) := fun s => d_X7_tellLevels_l7b x0 x1 s.1 s.2.1 s.2.2 m
noncomputable def d_X7_tellLevels_l7 (x0 : Nat) (x1 : Nat) (x2 : Int32) (x3 : Int32) (x4 : Int32) (m : dc_M) : Option (Int32 × dc_M) := dc_lp (d_X7_tellLevels_l7s x0 x1 m) (x2, x3, x4)
set_option maxHeartbeats 8000000 in
theorem k_X7_tellLevels_l7 {u : Nat} {Φ : (Option (Int32 × dc_M)) → Option Value → dc_M → Prop} (x0 : Nat) (x1 : Nat) (m : dc_M) (kR : ∀ (v : Int32) (m : dc_M), Φ (some ((v, m))) (some (.int v)) m) : ∀ (N : Nat), ∀ (x2 : Int32) (x3 : Int32) (x4 : Int32) (lv : ab_L), ab_lk lv 0 = some (.ref x0) → ab_lk lv 1 = some (.ref x1) → ab_lk lv 2 = some (.int x2) → ab_lk lv 3 = some (.int x3) → ab_lk lv 4 = some (.int x4) → dc_pv u N ab_M_X7_tellLevels 7 lv [] m (Φ (d_X7_tellLevels_l7 x0 x1 x2 x3 x4 m)) := by
  intro N
  induction N with
  | zero => intros; exact dc_pv_zero
  | succ N ih =>
    intro x2 x3 x4 lv f0 f1 f2 f3 f4
    refine dc_ok (C := C_X7_tellLevels) (S := S_X7_tellLevels) CO_X7_tellLevels 400 7 [(0, .ref x0), (1, .ref x1), (2, .int x2), (3, .int x3), (4, .int x4)] lv [] m (dc_sub_cons f0 (dc_sub_cons f1 (dc_sub_cons f2 (dc_sub_cons f3 (dc_sub_cons f4 (dc_sub_nil)))))) ?_
    unfold d_X7_tellLevels_l7
    rw [dc_lp_eq]
    show (fun t x => dc_lf u N ab_M_X7_tellLevels (Φ (Option.bind t (dc_bk (d_X7_tellLevels_l7s x0 x1 m)))) x) (d_X7_tellLevels_l7b x0 x1 x2 x3 x4 m) _
    dsimp only
    unfold d_X7_tellLevels_l7b
    refine dg_s (pc' := 9) [.int x4] rfl (fun _ => rfl) rfl ?_
    refine dg_s (pc' := 10) [.ref x0, .int x4] rfl (fun _ => rfl) rfl ?_
    refine dg_s (pc' := 13) [.int (m.1 x0 0), .int x4] rfl (fun _ => rfl) rfl ?_
    refine dw_if (fun t => Φ (Option.bind t (dc_bk (d_X7_tellLevels_l7s x0 x1 m)))) ((Int32.toInt (m.1 x0 0)) ≤ (Int32.toInt x4)) [] 160 16 rfl (fun _ => rfl) (fun c0 => ?_) (fun c0 => ?_)
    · refine dw_g rfl ?_
      refine dg_s (pc' := 161) [.int (0 : Int32)] rfl (fun _ => rfl) rfl ?_
      refine dw_L (pc' := 163) [(4, .int (0 : Int32)), (0, .ref x0), (1, .ref x1), (2, .int x2), (3, .int x3)] [] rfl (fun _ => rfl) ?_
      exact dw_j rfl (fun lv1 hv => k_X7_tellLevels_l163 (Φ := (fun t => Φ (Option.bind (t.map (fun z => Sum.inr (z))) (dc_bk (d_X7_tellLevels_l7s x0 x1 m))))) x0 x3 (fun _a _b => kR _a _b) N  (0 : Int32) m lv1 (hv.1 _ rfl) (hv.2.1 _ rfl) (hv.2.2.1 _ rfl))
    · refine dw_g rfl ?_
      refine dg_s (pc' := 17) [.int (0 : Int32)] rfl (fun _ => rfl) rfl ?_
      refine dw_L (pc' := 19) [(5, .int (0 : Int32)), (0, .ref x0), (1, .ref x1), (2, .int x2), (3, .int x3), (4, .int x4)] [] rfl (fun _ => rfl) ?_
      exact dw_j rfl (fun lv1 hv => k_X7_tellLevels_l19 (Φ := (fun t => Φ (Option.bind t (dc_bk (d_X7_tellLevels_l7s x0 x1 m))))) x0 x1 x4 m (fun _a _b => kR _a _b) N ih x2 x3 (0 : Int32) lv1 (hv.1 _ rfl) (hv.2.1 _ rfl) (hv.2.2.1 _ rfl) (hv.2.2.2.1 _ rfl) (hv.2.2.2.2.1 _ rfl) (hv.2.2.2.2.2.1 _ rfl))
noncomputable def d_X7_tellLevels (x0 : Nat) (x1 : Nat) (m : dc_M) : Option (Int32 × dc_M) :=
  (d_X7_tellLevels_l7 x0 x1 (0 : Int32) (0 : Int32) (0 : Int32) m)
set_option maxHeartbeats 8000000 in
theorem k_X7_tellLevels {u : Nat} {N : Nat} {Φ : (Option (Int32 × dc_M)) → Option Value → dc_M → Prop} (x0 : Nat) (x1 : Nat) (m : dc_M) (kR : ∀ (v : Int32) (m : dc_M), Φ (some ((v, m))) (some (.int v)) m)  {lv : ab_L} (f0 : ab_lk lv 0 = some (.ref x0)) (f1 : ab_lk lv 1 = some (.ref x1)) : dc_pv u N ab_M_X7_tellLevels 0 lv [] m (Φ (d_X7_tellLevels x0 x1 m)) := by
  refine dc_pv.mono (dc_ok (C := C_X7_tellLevels) (S := S_X7_tellLevels) CO_X7_tellLevels 400 0 [(0, .ref x0), (1, .ref x1)] lv [] m (dc_sub_cons f0 (dc_sub_cons f1 (dc_sub_nil))) ?_) (Nat.le_succ N)
  unfold d_X7_tellLevels
  refine dg_s (pc' := 1) [.int (0 : Int32)] rfl (fun _ => rfl) rfl ?_
  refine dg_L (pc' := 2) [(2, .int (0 : Int32)), (0, .ref x0), (1, .ref x1)] [] rfl (fun _ => rfl) rfl ?_
  refine dg_s (pc' := 3) [.int (0 : Int32)] rfl (fun _ => rfl) rfl ?_
  refine dg_L (pc' := 4) [(3, .int (0 : Int32)), (2, .int (0 : Int32)), (0, .ref x0), (1, .ref x1)] [] rfl (fun _ => rfl) rfl ?_
  refine dg_s (pc' := 5) [.int (0 : Int32)] rfl (fun _ => rfl) rfl ?_
  refine dw_L (pc' := 7) [(4, .int (0 : Int32)), (3, .int (0 : Int32)), (2, .int (0 : Int32)), (0, .ref x0), (1, .ref x1)] [] rfl (fun _ => rfl) ?_
  exact dw_j rfl (fun lv1 hv => k_X7_tellLevels_l7 (Φ := (fun t => Φ t)) x0 x1 m (fun _a _b => kR _a _b) N  (0 : Int32) (0 : Int32) (0 : Int32) lv1 (hv.1 _ rfl) (hv.2.1 _ rfl) (hv.2.2.1 _ rfl) (hv.2.2.2.1 _ rfl) (hv.2.2.2.2.1 _ rfl))
noncomputable def H_X7_tellLevels : dc_H := fun As m k => match As with
  | [.ref x0, .ref x1] => (d_X7_tellLevels x0 x1 m).bind (fun q => k (some (.int q.1)) q.2)
  | _ => dc_kz
theorem H_X7_tellLevels_ok {u : Nat} : dc_cok u 91 H_X7_tellLevels := fun M' hG N As m k P hz hP => by
  obtain rfl : ab_M_X7_tellLevels = M' := Option.some.inj hG
  unfold H_X7_tellLevels at hP
  split at hP
  · rename_i x0 x1
    exact dc_pv.imp (k_X7_tellLevels (Φ := fun (t : Option (Int32 × dc_M)) r m' => P (t.bind (fun q => k (some (.int q.1)) q.2)) → P (k r m')) x0 x1 m (fun _ _ h => h) rfl rfl) (fun r m' h => h hP)
  · exact absurd hP hz
