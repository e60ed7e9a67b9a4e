/-! ===== methods as functions (written by a program) ===== -/
def C_X10_lettersOf : List (Nat × dc_H) := []
theorem CO_X10_lettersOf {u : Nat} : dc_CO u C_X10_lettersOf := dc_CO_nil
def S_X10_lettersOf : List (Nat × List Nat) := [(7, [0, 2, 3, 4])]
noncomputable def d_X10_lettersOf_l7b (x0 : Nat) (x2 : Int32) (x3 : Int32) (x4 : Int32) (m : dc_M) : Option ((Int32 × Int32 × Int32) ⊕ Int32) :=
  (if (Int32.toInt (m.1 x0 0)) ≤ (Int32.toInt x4) then some (Sum.inr (x2)) else (if 2 ≤ (Int32.toInt (x3 - x3 / (3 : Int32) * (3 : Int32))) then some (Sum.inl ((x2 + (0 : Int32)), (x3 / (3 : Int32)), (x4 + (1 : Int32)))) else some (Sum.inl ((x2 + (1 : Int32)), (x3 / (3 : Int32)), (x4 + (1 : Int32))))))
noncomputable def d_X10_lettersOf_l7s (x0 : Nat) (m : dc_M) : (Int32 × Int32 × Int32) → Option ((Int32 × Int32 × Int32) ⊕ Int32) := fun s => d_X10_lettersOf_l7b x0 s.1 s.2.1 s.2.2 m
noncomputable def d_X10_lettersOf_l7 (x0 : Nat) (x2 : Int32) (x3 : Int32) (x4 : Int32) (m : dc_M) : Option Int32 := dc_lp (d_X10_lettersOf_l7s x0 m) (x2, x3, x4)
set_option maxHeartbeats 8000000 in
theorem k_X10_lettersOf_l7 {u : Nat} {Φ : (Option Int32) → Option Value → dc_M → Prop} (x0 : Nat) (m : dc_M) (kR : ∀ (v : Int32), Φ (some (v)) (some (.int v)) m) : ∀ (N : Nat), ∀ (x2 : Int32) (x3 : Int32) (x4 : Int32) (lv : ab_L), ab_lk lv 0 = some (.ref x0) → ab_lk lv 2 = some (.int x2) → ab_lk lv 3 = some (.int x3) → ab_lk lv 4 = some (.int x4) → dc_pv u N ab_M_X10_lettersOf 7 lv [] m (Φ (d_X10_lettersOf_l7 x0 x2 x3 x4 m)) := by
  intro N
  induction N with
  | zero => intros; exact dc_pv_zero
  | succ N ih =>
    intro x2 x3 x4 lv f0 f2 f3 f4
    refine dc_ok (C := C_X10_lettersOf) (S := S_X10_lettersOf) CO_X10_lettersOf 400 7 [(0, .ref x0), (2, .int x2), (3, .int x3), (4, .int x4)] lv [] m (dc_sub_cons f0 (dc_sub_cons f2 (dc_sub_cons f3 (dc_sub_cons f4 (dc_sub_nil))))) ?_
    unfold d_X10_lettersOf_l7
    rw [dc_lp_eq]
    show (fun t x => dc_lf u N ab_M_X10_lettersOf (Φ (Option.bind t (dc_bk (d_X10_lettersOf_l7s x0 m)))) x) (d_X10_lettersOf_l7b x0 x2 x3 x4 m) _
    dsimp only
    unfold d_X10_lettersOf_l7b
    refine dg_s (pc' := 9) [.int x4] rfl (fun _ => rfl) rfl ?_
    refine dg_s (pc' := 10) [.ref x0, .int x4] rfl (fun _ => rfl) rfl ?_
    refine dg_s (pc' := 13) [.int (m.1 x0 0), .int x4] rfl (fun _ => rfl) rfl ?_
    refine dw_if (fun t => Φ (Option.bind t (dc_bk (d_X10_lettersOf_l7s x0 m)))) ((Int32.toInt (m.1 x0 0)) ≤ (Int32.toInt x4)) [] 41 16 rfl (fun _ => rfl) (fun c0 => ?_) (fun c0 => ?_)
    · refine dw_g rfl ?_
      refine dg_s (pc' := 42) [.int x2] rfl (fun _ => rfl) rfl ?_
      exact dw_r (some (.inl (some (.int x2), m))) rfl (fun _ => rfl) (kR _)
    · refine dw_g rfl ?_
      refine dg_s (pc' := 17) [.int x2] rfl (fun _ => rfl) rfl ?_
      refine dg_s (pc' := 18) [.int x3, .int x2] rfl (fun _ => rfl) rfl ?_
      refine dg_s (pc' := 19) [.int (3 : Int32), .int x3, .int x2] rfl (fun _ => rfl) rfl ?_
      refine dg_s (pc' := 20) [.int (x3 - x3 / (3 : Int32) * (3 : Int32)), .int x2] rfl (fun _ => rfl) rfl ?_
      refine dg_s (pc' := 21) [.int (2 : Int32), .int (x3 - x3 / (3 : Int32) * (3 : Int32)), .int x2] rfl (fun _ => rfl) rfl ?_
      refine dw_if (fun t => Φ (Option.bind t (dc_bk (d_X10_lettersOf_l7s x0 m)))) (2 ≤ (Int32.toInt (x3 - x3 / (3 : Int32) * (3 : Int32)))) [.int x2] 28 24 rfl (fun _ => rfl) (fun c1 => ?_) (fun c1 => ?_)
      · refine dw_g rfl ?_
        refine dg_s (pc' := 29) [.int (0 : Int32), .int x2] rfl (fun _ => rfl) rfl ?_
        refine dg_s (pc' := 30) [.int (x2 + (0 : Int32))] rfl (fun _ => rfl) rfl ?_
        refine dg_L (pc' := 31) [(2, .int (x2 + (0 : Int32))), (0, .ref x0), (3, .int x3), (4, .int x4)] [] rfl (fun _ => rfl) rfl ?_
        refine dg_s (pc' := 32) [.int x3] rfl (fun _ => rfl) rfl ?_
        refine dg_s (pc' := 33) [.int (3 : Int32), .int x3] rfl (fun _ => rfl) rfl ?_
        refine dg_s (pc' := 34) [.int (x3 / (3 : Int32))] rfl (fun _ => rfl) rfl ?_
        refine dg_L (pc' := 35) [(3, .int (x3 / (3 : Int32))), (2, .int (x2 + (0 : Int32))), (0, .ref x0), (4, .int x4)] [] rfl (fun _ => rfl) rfl ?_
        refine dg_L (pc' := 38) [(4, .int (x4 + (1 : Int32))), (3, .int (x3 / (3 : Int32))), (2, .int (x2 + (0 : Int32))), (0, .ref x0)] [] rfl (fun _ => rfl) rfl ?_
        refine dw_s (pc' := 7) [] rfl (fun _ => rfl) ?_
        exact dw_j rfl (fun lv1 hv => ih (x2 + (0 : Int32)) (x3 / (3 : Int32)) (x4 + (1 : Int32)) lv1 (hv.1 _ rfl) (hv.2.1 _ rfl) (hv.2.2.1 _ rfl) (hv.2.2.2.1 _ rfl))
      · refine dw_g rfl ?_
        refine dg_s (pc' := 25) [.int (1 : Int32), .int x2] rfl (fun _ => rfl) rfl ?_
        refine dg_s (pc' := 29) [.int (1 : Int32), .int x2] rfl (fun _ => rfl) rfl ?_
        refine dg_s (pc' := 30) [.int (x2 + (1 : Int32))] rfl (fun _ => rfl) rfl ?_
        refine dg_L (pc' := 31) [(2, .int (x2 + (1 : Int32))), (0, .ref x0), (3, .int x3), (4, .int x4)] [] rfl (fun _ => rfl) rfl ?_
        refine dg_s (pc' := 32) [.int x3] rfl (fun _ => rfl) rfl ?_
        refine dg_s (pc' := 33) [.int (3 : Int32), .int x3] rfl (fun _ => rfl) rfl ?_
        refine dg_s (pc' := 34) [.int (x3 / (3 : Int32))] rfl (fun _ => rfl) rfl ?_
        refine dg_L (pc' := 35) [(3, .int (x3 / (3 : Int32))), (2, .int (x2 + (1 : Int32))), (0, .ref x0), (4, .int x4)] [] rfl (fun _ => rfl) rfl ?_
        refine dg_L (pc' := 38) [(4, .int (x4 + (1 : Int32))), (3, .int (x3 / (3 : Int32))), (2, .int (x2 + (1 : Int32))), (0, .ref x0)] [] rfl (fun _ => rfl) rfl ?_
        refine dw_s (pc' := 7) [] rfl (fun _ => rfl) ?_
        exact dw_j rfl (fun lv1 hv => ih (x2 + (1 : Int32)) (x3 / (3 : Int32)) (x4 + (1 : Int32)) lv1 (hv.1 _ rfl) (hv.2.1 _ rfl) (hv.2.2.1 _ rfl) (hv.2.2.2.1 _ rfl))
noncomputable def d_X10_lettersOf (x0 : Nat) (x1 : Int32) (m : dc_M) : Option Int32 :=
  (d_X10_lettersOf_l7 x0 (0 : Int32) x1 (0 : Int32) m)
set_option maxHeartbeats 8000000 in
theorem k_X10_lettersOf {u : Nat} {N : Nat} {Φ : (Option Int32) → Option Value → dc_M → Prop} (x0 : Nat) (x1 : Int32) (m : dc_M) (kR : ∀ (v : Int32), Φ (some (v)) (some (.int v)) m)  {lv : ab_L} (f0 : ab_lk lv 0 = some (.ref x0)) (f1 : ab_lk lv 1 = some (.int x1)) : dc_pv u N ab_M_X10_lettersOf 0 lv [] m (Φ (d_X10_lettersOf x0 x1 m)) := by
  refine dc_pv.mono (dc_ok (C := C_X10_lettersOf) (S := S_X10_lettersOf) CO_X10_lettersOf 400 0 [(0, .ref x0), (1, .int x1)] lv [] m (dc_sub_cons f0 (dc_sub_cons f1 (dc_sub_nil))) ?_) (Nat.le_succ N)
  unfold d_X10_lettersOf
  refine dg_s (pc' := 1) [.int (0 : Int32)] rfl (fun _ => rfl) rfl ?_
  refine dg_L (pc' := 2) [(2, .int (0 : Int32)), (0, .ref x0), (1, .int x1)] [] rfl (fun _ => rfl) rfl ?_
  refine dg_s (pc' := 3) [.int x1] rfl (fun _ => rfl) rfl ?_
  refine dg_L (pc' := 4) [(3, .int x1), (2, .int (0 : Int32)), (0, .ref x0), (1, .int x1)] [] rfl (fun _ => rfl) rfl ?_
  refine dg_s (pc' := 5) [.int (0 : Int32)] rfl (fun _ => rfl) rfl ?_
  refine dw_L (pc' := 7) [(4, .int (0 : Int32)), (3, .int x1), (2, .int (0 : Int32)), (0, .ref x0), (1, .int x1)] [] rfl (fun _ => rfl) ?_
  exact dw_j rfl (fun lv1 hv => k_X10_lettersOf_l7 (Φ := (fun t => Φ t)) x0 m (fun _a  => kR _a) N  (0 : Int32) x1 (0 : Int32) lv1 (hv.1 _ rfl) (hv.2.1 _ rfl) (hv.2.2.1 _ rfl) (hv.2.2.2.1 _ rfl))
noncomputable def H_X10_lettersOf : dc_H := fun As m k => match As with
  | [.ref x0, .int x1] => (d_X10_lettersOf x0 x1 m).bind (fun q => k (some (.int q)) m)
  | _ => dc_kz
theorem H_X10_lettersOf_ok {u : Nat} : dc_cok u 192 H_X10_lettersOf := fun M' hG N As m k P hz hP => by
  obtain rfl : ab_M_X10_lettersOf = M' := Option.some.inj hG
  unfold H_X10_lettersOf at hP
  split at hP
  · rename_i x0 x1
    exact dc_pv.imp (k_X10_lettersOf (Φ := fun (t : Option Int32) r m' => P (t.bind (fun q => k (some (.int q)) m)) → P (k r m')) x0 x1 m (fun _  h => h) rfl rfl) (fun r m' h => h hP)
  · exact absurd hP hz
noncomputable def C_X10_layCubes : List (Nat × dc_H) := [(190, H_X10_cubeAll), (192, H_X10_lettersOf), (191, H_X10_levelsOf)]
theorem CO_X10_layCubes {u : Nat} : dc_CO u C_X10_layCubes := dc_CO_cons H_X10_cubeAll_ok (dc_CO_cons H_X10_lettersOf_ok (dc_CO_cons H_X10_levelsOf_ok (dc_CO_nil)))
def S_X10_layCubes : List (Nat × List Nat) := [(7, [0, 1]), (56, [0, 1, 2, 4, 5, 6]), (126, [0, 1, 2, 4])]
noncomputable def d_X10_layCubes_b126 (x0 : Nat) (x1 : Int32) (x2 : Int64) (x4 : Int32) (m : dc_M) : Option ((Int32 × dc_M) ⊕ dc_M) :=
  (if (Int32.toInt x4) = 0 then some (Sum.inl ((x1 + (1 : Int32)), m)) else ((d_X10_lettersOf x0 x1 (dc_wl (dc_wi m (x0 + 21) (Int32.toNatClampNeg (m.1 x0 49)) x1) (x0 + 22) (Int32.toNatClampNeg ((dc_wi m (x0 + 21) (Int32.toNatClampNeg (m.1 x0 49)) x1).1 x0 49)) (x2 &&& ((dc_wi m (x0 + 21) (Int32.toNatClampNeg (m.1 x0 49)) x1).2.1 x0 47)))).bind (fun q1 => some (Sum.inl ((x1 + (1 : Int32)), (dc_wi (dc_wi (dc_wl (dc_wi m (x0 + 21) (Int32.toNatClampNeg (m.1 x0 49)) x1) (x0 + 22) (Int32.toNatClampNeg ((dc_wi m (x0 + 21) (Int32.toNatClampNeg (m.1 x0 49)) x1).1 x0 49)) (x2 &&& ((dc_wi m (x0 + 21) (Int32.toNatClampNeg (m.1 x0 49)) x1).2.1 x0 47))) (x0 + 23) (Int32.toNatClampNeg ((dc_wl (dc_wi m (x0 + 21) (Int32.toNatClampNeg (m.1 x0 49)) x1) (x0 + 22) (Int32.toNatClampNeg ((dc_wi m (x0 + 21) (Int32.toNatClampNeg (m.1 x0 49)) x1).1 x0 49)) (x2 &&& ((dc_wi m (x0 + 21) (Int32.toNatClampNeg (m.1 x0 49)) x1).2.1 x0 47))).1 x0 49)) q1) x0 49 (((dc_wi (dc_wl (dc_wi m (x0 + 21) (Int32.toNatClampNeg (m.1 x0 49)) x1) (x0 + 22) (Int32.toNatClampNeg ((dc_wi m (x0 + 21) (Int32.toNatClampNeg (m.1 x0 49)) x1).1 x0 49)) (x2 &&& ((dc_wi m (x0 + 21) (Int32.toNatClampNeg (m.1 x0 49)) x1).2.1 x0 47))) (x0 + 23) (Int32.toNatClampNeg ((dc_wl (dc_wi m (x0 + 21) (Int32.toNatClampNeg (m.1 x0 49)) x1) (x0 + 22) (Int32.toNatClampNeg ((dc_wi m (x0 + 21) (Int32.toNatClampNeg (m.1 x0 49)) x1).1 x0 49)) (x2 &&& ((dc_wi m (x0 + 21) (Int32.toNatClampNeg (m.1 x0 49)) x1).2.1 x0 47))).1 x0 49)) q1).1 x0 49) + (1 : Int32))))))))
set_option maxHeartbeats 8000000 in
theorem k_X10_layCubes_b126 {u : Nat} {N : Nat} {Φ : (Option ((Int32 × dc_M) ⊕ dc_M)) → Option Value → dc_M → Prop} (x0 : Nat) (x1 : Int32) (x2 : Int64) (x4 : Int32) (m : dc_M) (kR : ∀  (m : dc_M), Φ (some (Sum.inr (m))) (none) m) (k7 : ∀ (x1 : Int32) (m : dc_M) (lv : ab_L), ab_lk lv 0 = some (.ref x0) → ab_lk lv 1 = some (.int x1) →  dc_pv u N ab_M_X10_layCubes 7 lv [] m (Φ (some (Sum.inl (x1, m))))) {lv : ab_L} (f0 : ab_lk lv 0 = some (.ref x0)) (f1 : ab_lk lv 1 = some (.int x1)) (f2 : ab_lk lv 2 = some (.long x2)) (f4 : ab_lk lv 4 = some (.int x4)) : dc_pv u N ab_M_X10_layCubes 126 lv [] m (Φ (d_X10_layCubes_b126 x0 x1 x2 x4 m)) := by
  refine dc_pv.mono (dc_ok (C := C_X10_layCubes) (S := S_X10_layCubes) CO_X10_layCubes 400 126 [(0, .ref x0), (1, .int x1), (2, .long x2), (4, .int x4)] lv [] m (dc_sub_cons f0 (dc_sub_cons f1 (dc_sub_cons f2 (dc_sub_cons f4 (dc_sub_nil))))) ?_) (Nat.le_succ N)
  unfold d_X10_layCubes_b126
  refine dg_s (pc' := 128) [.int x4] rfl (fun _ => rfl) rfl ?_
  refine dw_if (fun t => Φ t) ((Int32.toInt x4) = 0) [] 180 131 rfl (fun _ => rfl) (fun c0 => ?_) (fun c0 => ?_)
  · refine dw_g rfl ?_
    refine dg_L (pc' := 183) [(1, .int (x1 + (1 : Int32))), (0, .ref x0), (2, .long x2), (4, .int x4)] [] rfl (fun _ => rfl) rfl ?_
    refine dw_s (pc' := 7) [] rfl (fun _ => rfl) ?_
    exact dw_j rfl (fun lv1 hv => k7 (x1 + (1 : Int32)) m lv1 (hv.1 _ rfl) (hv.2.1 _ rfl))
  · refine dw_g rfl ?_
    refine dg_s (pc' := 132) [.ref x0] rfl (fun _ => rfl) rfl ?_
    refine dg_s (pc' := 135) [.ref (x0 + 21)] rfl (fun _ => rfl) rfl ?_
    refine dg_s (pc' := 136) [.ref x0, .ref (x0 + 21)] rfl (fun _ => rfl) rfl ?_
    refine dg_s (pc' := 139) [.int (m.1 x0 49), .ref (x0 + 21)] rfl (fun _ => rfl) rfl ?_
    refine dg_s (pc' := 140) [.int x1, .int (m.1 x0 49), .ref (x0 + 21)] rfl (fun _ => rfl) rfl ?_
    refine dg_m (pc' := 141) (dc_wi m (x0 + 21) (Int32.toNatClampNeg (m.1 x0 49)) x1) [] rfl (fun _ => rfl) rfl ?_
    refine dg_s (pc' := 142) [.ref x0] rfl (fun _ => rfl) rfl ?_
    refine dg_s (pc' := 145) [.ref (x0 + 22)] rfl (fun _ => rfl) rfl ?_
    refine dg_s (pc' := 146) [.ref x0, .ref (x0 + 22)] rfl (fun _ => rfl) rfl ?_
    refine dg_s (pc' := 149) [.int ((dc_wi m (x0 + 21) (Int32.toNatClampNeg (m.1 x0 49)) x1).1 x0 49), .ref (x0 + 22)] rfl (fun _ => rfl) rfl ?_
    refine dg_s (pc' := 150) [.long x2, .int ((dc_wi m (x0 + 21) (Int32.toNatClampNeg (m.1 x0 49)) x1).1 x0 49), .ref (x0 + 22)] rfl (fun _ => rfl) rfl ?_
    refine dg_s (pc' := 151) [.ref x0, .long x2, .int ((dc_wi m (x0 + 21) (Int32.toNatClampNeg (m.1 x0 49)) x1).1 x0 49), .ref (x0 + 22)] rfl (fun _ => rfl) rfl ?_
    refine dg_s (pc' := 154) [.long ((dc_wi m (x0 + 21) (Int32.toNatClampNeg (m.1 x0 49)) x1).2.1 x0 47), .long x2, .int ((dc_wi m (x0 + 21) (Int32.toNatClampNeg (m.1 x0 49)) x1).1 x0 49), .ref (x0 + 22)] rfl (fun _ => rfl) rfl ?_
    refine dg_s (pc' := 155) [.long (x2 &&& ((dc_wi m (x0 + 21) (Int32.toNatClampNeg (m.1 x0 49)) x1).2.1 x0 47)), .int ((dc_wi m (x0 + 21) (Int32.toNatClampNeg (m.1 x0 49)) x1).1 x0 49), .ref (x0 + 22)] rfl (fun _ => rfl) rfl ?_
    refine dg_m (pc' := 156) (dc_wl (dc_wi m (x0 + 21) (Int32.toNatClampNeg (m.1 x0 49)) x1) (x0 + 22) (Int32.toNatClampNeg ((dc_wi m (x0 + 21) (Int32.toNatClampNeg (m.1 x0 49)) x1).1 x0 49)) (x2 &&& ((dc_wi m (x0 + 21) (Int32.toNatClampNeg (m.1 x0 49)) x1).2.1 x0 47))) [] rfl (fun _ => rfl) rfl ?_
    refine dg_s (pc' := 157) [.ref x0] rfl (fun _ => rfl) rfl ?_
    refine dg_s (pc' := 160) [.ref (x0 + 23)] rfl (fun _ => rfl) rfl ?_
    refine dg_s (pc' := 161) [.ref x0, .ref (x0 + 23)] rfl (fun _ => rfl) rfl ?_
    refine dg_s (pc' := 164) [.int ((dc_wl (dc_wi m (x0 + 21) (Int32.toNatClampNeg (m.1 x0 49)) x1) (x0 + 22) (Int32.toNatClampNeg ((dc_wi m (x0 + 21) (Int32.toNatClampNeg (m.1 x0 49)) x1).1 x0 49)) (x2 &&& ((dc_wi m (x0 + 21) (Int32.toNatClampNeg (m.1 x0 49)) x1).2.1 x0 47))).1 x0 49), .ref (x0 + 23)] rfl (fun _ => rfl) rfl ?_
    refine dg_s (pc' := 165) [.ref x0, .int ((dc_wl (dc_wi m (x0 + 21) (Int32.toNatClampNeg (m.1 x0 49)) x1) (x0 + 22) (Int32.toNatClampNeg ((dc_wi m (x0 + 21) (Int32.toNatClampNeg (m.1 x0 49)) x1).1 x0 49)) (x2 &&& ((dc_wi m (x0 + 21) (Int32.toNatClampNeg (m.1 x0 49)) x1).2.1 x0 47))).1 x0 49), .ref (x0 + 23)] rfl (fun _ => rfl) rfl ?_
    refine dg_s (pc' := 166) [.int x1, .ref x0, .int ((dc_wl (dc_wi m (x0 + 21) (Int32.toNatClampNeg (m.1 x0 49)) x1) (x0 + 22) (Int32.toNatClampNeg ((dc_wi m (x0 + 21) (Int32.toNatClampNeg (m.1 x0 49)) x1).1 x0 49)) (x2 &&& ((dc_wi m (x0 + 21) (Int32.toNatClampNeg (m.1 x0 49)) x1).2.1 x0 47))).1 x0 49), .ref (x0 + 23)] rfl (fun _ => rfl) rfl ?_
    refine dw_b (fun t => Φ t) (pc' := 169) (fun q1 => [.int q1, .int ((dc_wl (dc_wi m (x0 + 21) (Int32.toNatClampNeg (m.1 x0 49)) x1) (x0 + 22) (Int32.toNatClampNeg ((dc_wi m (x0 + 21) (Int32.toNatClampNeg (m.1 x0 49)) x1).1 x0 49)) (x2 &&& ((dc_wi m (x0 + 21) (Int32.toNatClampNeg (m.1 x0 49)) x1).2.1 x0 47))).1 x0 49), .ref (x0 + 23)]) (fun q1 => (dc_wl (dc_wi m (x0 + 21) (Int32.toNatClampNeg (m.1 x0 49)) x1) (x0 + 22) (Int32.toNatClampNeg ((dc_wi m (x0 + 21) (Int32.toNatClampNeg (m.1 x0 49)) x1).1 x0 49)) (x2 &&& ((dc_wi m (x0 + 21) (Int32.toNatClampNeg (m.1 x0 49)) x1).2.1 x0 47)))) rfl (fun _ => rfl) (fun q1 => ?_)
    refine dw_g rfl ?_
    refine dg_m (pc' := 170) (dc_wi (dc_wl (dc_wi m (x0 + 21) (Int32.toNatClampNeg (m.1 x0 49)) x1) (x0 + 22) (Int32.toNatClampNeg ((dc_wi m (x0 + 21) (Int32.toNatClampNeg (m.1 x0 49)) x1).1 x0 49)) (x2 &&& ((dc_wi m (x0 + 21) (Int32.toNatClampNeg (m.1 x0 49)) x1).2.1 x0 47))) (x0 + 23) (Int32.toNatClampNeg ((dc_wl (dc_wi m (x0 + 21) (Int32.toNatClampNeg (m.1 x0 49)) x1) (x0 + 22) (Int32.toNatClampNeg ((dc_wi m (x0 + 21) (Int32.toNatClampNeg (m.1 x0 49)) x1).1 x0 49)) (x2 &&& ((dc_wi m (x0 + 21) (Int32.toNatClampNeg (m.1 x0 49)) x1).2.1 x0 47))).1 x0 49)) q1) [] rfl (fun _ => rfl) rfl ?_
    refine dg_s (pc' := 171) [.ref x0] rfl (fun _ => rfl) rfl ?_
    refine dg_s (pc' := 172) [.ref x0, .ref x0] rfl (fun _ => rfl) rfl ?_
    refine dg_s (pc' := 175) [.int ((dc_wi (dc_wl (dc_wi m (x0 + 21) (Int32.toNatClampNeg (m.1 x0 49)) x1) (x0 + 22) (Int32.toNatClampNeg ((dc_wi m (x0 + 21) (Int32.toNatClampNeg (m.1 x0 49)) x1).1 x0 49)) (x2 &&& ((dc_wi m (x0 + 21) (Int32.toNatClampNeg (m.1 x0 49)) x1).2.1 x0 47))) (x0 + 23) (Int32.toNatClampNeg ((dc_wl (dc_wi m (x0 + 21) (Int32.toNatClampNeg (m.1 x0 49)) x1) (x0 + 22) (Int32.toNatClampNeg ((dc_wi m (x0 + 21) (Int32.toNatClampNeg (m.1 x0 49)) x1).1 x0 49)) (x2 &&& ((dc_wi m (x0 + 21) (Int32.toNatClampNeg (m.1 x0 49)) x1).2.1 x0 47))).1 x0 49)) q1).1 x0 49), .ref x0] rfl (fun _ => rfl) rfl ?_
    refine dg_s (pc' := 176) [.int (1 : Int32), .int ((dc_wi (dc_wl (dc_wi m (x0 + 21) (Int32.toNatClampNeg (m.1 x0 49)) x1) (x0 + 22) (Int32.toNatClampNeg ((dc_wi m (x0 + 21) (Int32.toNatClampNeg (m.1 x0 49)) x1).1 x0 49)) (x2 &&& ((dc_wi m (x0 + 21) (Int32.toNatClampNeg (m.1 x0 49)) x1).2.1 x0 47))) (x0 + 23) (Int32.toNatClampNeg ((dc_wl (dc_wi m (x0 + 21) (Int32.toNatClampNeg (m.1 x0 49)) x1) (x0 + 22) (Int32.toNatClampNeg ((dc_wi m (x0 + 21) (Int32.toNatClampNeg (m.1 x0 49)) x1).1 x0 49)) (x2 &&& ((dc_wi m (x0 + 21) (Int32.toNatClampNeg (m.1 x0 49)) x1).2.1 x0 47))).1 x0 49)) q1).1 x0 49), .ref x0] rfl (fun _ => rfl) rfl ?_
    refine dg_s (pc' := 177) [.int (((dc_wi (dc_wl (dc_wi m (x0 + 21) (Int32.toNatClampNeg (m.1 x0 49)) x1) (x0 + 22) (Int32.toNatClampNeg ((dc_wi m (x0 + 21) (Int32.toNatClampNeg (m.1 x0 49)) x1).1 x0 49)) (x2 &&& ((dc_wi m (x0 + 21) (Int32.toNatClampNeg (m.1 x0 49)) x1).2.1 x0 47))) (x0 + 23) (Int32.toNatClampNeg ((dc_wl (dc_wi m (x0 + 21) (Int32.toNatClampNeg (m.1 x0 49)) x1) (x0 + 22) (Int32.toNatClampNeg ((dc_wi m (x0 + 21) (Int32.toNatClampNeg (m.1 x0 49)) x1).1 x0 49)) (x2 &&& ((dc_wi m (x0 + 21) (Int32.toNatClampNeg (m.1 x0 49)) x1).2.1 x0 47))).1 x0 49)) q1).1 x0 49) + (1 : Int32)), .ref x0] rfl (fun _ => rfl) rfl ?_
    refine dg_m (pc' := 180) (dc_wi (dc_wi (dc_wl (dc_wi m (x0 + 21) (Int32.toNatClampNeg (m.1 x0 49)) x1) (x0 + 22) (Int32.toNatClampNeg ((dc_wi m (x0 + 21) (Int32.toNatClampNeg (m.1 x0 49)) x1).1 x0 49)) (x2 &&& ((dc_wi m (x0 + 21) (Int32.toNatClampNeg (m.1 x0 49)) x1).2.1 x0 47))) (x0 + 23) (Int32.toNatClampNeg ((dc_wl (dc_wi m (x0 + 21) (Int32.toNatClampNeg (m.1 x0 49)) x1) (x0 + 22) (Int32.toNatClampNeg ((dc_wi m (x0 + 21) (Int32.toNatClampNeg (m.1 x0 49)) x1).1 x0 49)) (x2 &&& ((dc_wi m (x0 + 21) (Int32.toNatClampNeg (m.1 x0 49)) x1).2.1 x0 47))).1 x0 49)) q1) x0 49 (((dc_wi (dc_wl (dc_wi m (x0 + 21) (Int32.toNatClampNeg (m.1 x0 49)) x1) (x0 + 22) (Int32.toNatClampNeg ((dc_wi m (x0 + 21) (Int32.toNatClampNeg (m.1 x0 49)) x1).1 x0 49)) (x2 &&& ((dc_wi m (x0 + 21) (Int32.toNatClampNeg (m.1 x0 49)) x1).2.1 x0 47))) (x0 + 23) (Int32.toNatClampNeg ((dc_wl (dc_wi m (x0 + 21) (Int32.toNatClampNeg (m.1 x0 49)) x1) (x0 + 22) (Int32.toNatClampNeg ((dc_wi m (x0 + 21) (Int32.toNatClampNeg (m.1 x0 49)) x1).1 x0 49)) (x2 &&& ((dc_wi m (x0 + 21) (Int32.toNatClampNeg (m.1 x0 49)) x1).2.1 x0 47))).1 x0 49)) q1).1 x0 49) + (1 : Int32))) [] rfl (fun _ => rfl) rfl ?_
    refine dg_L (pc' := 183) [(1, .int (x1 + (1 : Int32))), (0, .ref x0), (2, .long x2), (4, .int x4)] [] rfl (fun _ => rfl) rfl ?_
    refine dw_s (pc' := 7) [] rfl (fun _ => rfl) ?_
    exact dw_j rfl (fun lv1 hv => k7 (x1 + (1 : Int32)) (dc_wi (dc_wi (dc_wl (dc_wi m (x0 + 21) (Int32.toNatClampNeg (m.1 x0 49)) x1) (x0 + 22) (Int32.toNatClampNeg ((dc_wi m (x0 + 21) (Int32.toNatClampNeg (m.1 x0 49)) x1).1 x0 49)) (x2 &&& ((dc_wi m (x0 + 21) (Int32.toNatClampNeg (m.1 x0 49)) x1).2.1 x0 47))) (x0 + 23) (Int32.toNatClampNeg ((dc_wl (dc_wi m (x0 + 21) (Int32.toNatClampNeg (m.1 x0 49)) x1) (x0 + 22) (Int32.toNatClampNeg ((dc_wi m (x0 + 21) (Int32.toNatClampNeg (m.1 x0 49)) x1).1 x0 49)) (x2 &&& ((dc_wi m (x0 + 21) (Int32.toNatClampNeg (m.1 x0 49)) x1).2.1 x0 47))).1 x0 49)) q1) x0 49 (((dc_wi (dc_wl (dc_wi m (x0 + 21) (Int32.toNatClampNeg (m.1 x0 49)) x1) (x0 + 22) (Int32.toNatClampNeg ((dc_wi m (x0 + 21) (Int32.toNatClampNeg (m.1 x0 49)) x1).1 x0 49)) (x2 &&& ((dc_wi m (x0 + 21) (Int32.toNatClampNeg (m.1 x0 49)) x1).2.1 x0 47))) (x0 + 23) (Int32.toNatClampNeg ((dc_wl (dc_wi m (x0 + 21) (Int32.toNatClampNeg (m.1 x0 49)) x1) (x0 + 22) (Int32.toNatClampNeg ((dc_wi m (x0 + 21) (Int32.toNatClampNeg (m.1 x0 49)) x1).1 x0 49)) (x2 &&& ((dc_wi m (x0 + 21) (Int32.toNatClampNeg (m.1 x0 49)) x1).2.1 x0 47))).1 x0 49)) q1).1 x0 49) + (1 : Int32))) lv1 (hv.1 _ rfl) (hv.2.1 _ rfl))
noncomputable def d_X10_layCubes_l56b (x0 : Nat) (x1 : Int32) (x2 : Int64) (x4 : Int32) (x5 : Int32) (x6 : Int32) (m : dc_M) : Option ((Int32 × Int32 × Int32) ⊕ ((Int32 × dc_M) ⊕ dc_M)) :=
  (if (Int32.toInt (m.1 x0 0)) ≤ (Int32.toInt x6) then ((d_X10_layCubes_b126 x0 x1 x2 x4 m).map (fun z => Sum.inr (z))) else (if (Int32.toInt x4) = 0 then ((d_X10_layCubes_b126 x0 x1 x2 x4 m).map (fun z => Sum.inr (z))) else (if (Int32.toInt ((x1 / x5) - (x1 / x5) / (3 : Int32) * (3 : Int32))) = 2 then some (Sum.inl ((1 : Int32), (x5 * (3 : Int32)), (x6 + (1 : Int32)))) else ((d_X10_levelsOf x0 (x1 + (((2 : Int32) - ((x1 / x5) - (x1 / x5) / (3 : Int32) * (3 : Int32))) * x5)) m).bind (fun q1 => (if (Int32.toInt (lg_cmp (q1 &&& (m.2.1 x0 48)) (0 : Int64))) = 0 then some (Sum.inl ((0 : Int32), (x5 * (3 : Int32)), (x6 + (1 : Int32)))) else some (Sum.inl ((1 : Int32), (x5 * (3 : Int32)), (x6 + (1 : Int32))))))))))
noncomputable def d_X10_layCubes_l56s (x0 : Nat) (x1 : Int32) (x2 : Int64) (m : dc_M) : (Int32 × Int32 × Int32) → Option ((Int32 × Int32 × Int32) ⊕ ((Int32 × dc_M) ⊕ dc_M)) := fun s => d_X10_layCubes_l56b x0 x1 x2 s.1 s.2.1 s.2.2 m
noncomputable def d_X10_layCubes_l56 (x0 : Nat) (x1 : Int32) (x2 : Int64) (x4 : Int32) (x5 : Int32) (x6 : Int32) (m : dc_M) : Option ((Int32 × dc_M) ⊕ dc_M) := dc_lp (d_X10_layCubes_l56s x0 x1 x2 m) (x4, x5, x6)
set_option maxHeartbeats 8000000 in
theorem k_X10_layCubes_l56 {u : Nat} {Φ : (Option ((Int32 × dc_M) ⊕ dc_M)) → Option Value → dc_M → Prop} (x0 : Nat) (x1 : Int32) (x2 : Int64) (m : dc_M) (kR : ∀  (m : dc_M), Φ (some (Sum.inr (m))) (none) m) : ∀ (N : Nat), (∀ (x1 : Int32) (m : dc_M) (lv : ab_L), ab_lk lv 0 = some (.ref x0) → ab_lk lv 1 = some (.int x1) →  dc_pv u N ab_M_X10_layCubes 7 lv [] m (Φ (some (Sum.inl (x1, m))))) → ∀ (x4 : Int32) (x5 : Int32) (x6 : Int32) (lv : ab_L), ab_lk lv 0 = some (.ref x0) → ab_lk lv 1 = some (.int x1) → ab_lk lv 2 = some (.long x2) → ab_lk lv 4 = some (.int x4) → ab_lk lv 5 = some (.int x5) → ab_lk lv 6 = some (.int x6) → dc_pv u N ab_M_X10_layCubes 56 lv [] m (Φ (d_X10_layCubes_l56 x0 x1 x2 x4 x5 x6 m)) := by
  intro N
  induction N with
  | zero => intros; exact dc_pv_zero
  | succ N ih =>
    intro k7 x4 x5 x6 lv f0 f1 f2 f4 f5 f6
    have k7 := fun a0 a1 a2 a3 a4 => (k7 a0 a1 a2 a3 a4).mono (Nat.le_succ N)
    have ih := ih k7
    refine dc_ok (C := C_X10_layCubes) (S := S_X10_layCubes) CO_X10_layCubes 400 56 [(0, .ref x0), (1, .int x1), (2, .long x2), (4, .int x4), (5, .int x5), (6, .int x6)] lv [] m (dc_sub_cons f0 (dc_sub_cons f1 (dc_sub_cons f2 (dc_sub_cons f4 (dc_sub_cons f5 (dc_sub_cons f6 (dc_sub_nil))))))) ?_
    unfold d_X10_layCubes_l56
    rw [dc_lp_eq]
    show (fun t x => dc_lf u N ab_M_X10_layCubes (Φ (Option.bind t (dc_bk (d_X10_layCubes_l56s x0 x1 x2 m)))) x) (d_X10_layCubes_l56b x0 x1 x2 x4 x5 x6 m) _
    dsimp only
    unfold d_X10_layCubes_l56b
    refine dg_s (pc' := 58) [.int x6] rfl (fun _ => rfl) rfl ?_
    refine dg_s (pc' := 59) [.ref x0, .int x6] rfl (fun _ => rfl) rfl ?_
    refine dg_s (pc' := 62) [.int (m.1 x0 0), .int x6] rfl (fun _ => rfl) rfl ?_
    refine dw_if (fun t => Φ (Option.bind t (dc_bk (d_X10_layCubes_l56s x0 x1 x2 m)))) ((Int32.toInt (m.1 x0 0)) ≤ (Int32.toInt x6)) [] 126 65 rfl (fun _ => rfl) (fun c0 => ?_) (fun c0 => ?_)
    · exact dw_j rfl (fun lv1 hv => k_X10_layCubes_b126 (Φ := (fun t => Φ (Option.bind (t.map (fun z => Sum.inr (z))) (dc_bk (d_X10_layCubes_l56s x0 x1 x2 m))))) x0 x1 x2 x4 m (fun _b => kR _b) k7 (hv.1 _ rfl) (hv.2.1 _ rfl) (hv.2.2.1 _ rfl) (hv.2.2.2.1 _ rfl))
    · refine dw_g rfl ?_
      refine dg_s (pc' := 67) [.int x4] rfl (fun _ => rfl) rfl ?_
      refine dw_if (fun t => Φ (Option.bind t (dc_bk (d_X10_layCubes_l56s x0 x1 x2 m)))) ((Int32.toInt x4) = 0) [] 126 70 rfl (fun _ => rfl) (fun c1 => ?_) (fun c1 => ?_)
      · exact dw_j rfl (fun lv1 hv => k_X10_layCubes_b126 (Φ := (fun t => Φ (Option.bind (t.map (fun z => Sum.inr (z))) (dc_bk (d_X10_layCubes_l56s x0 x1 x2 m))))) x0 x1 x2 x4 m (fun _b => kR _b) k7 (hv.1 _ rfl) (hv.2.1 _ rfl) (hv.2.2.1 _ rfl) (hv.2.2.2.1 _ rfl))
      · refine dw_g rfl ?_
        refine dg_s (pc' := 71) [.int x1] rfl (fun _ => rfl) rfl ?_
        refine dg_s (pc' := 73) [.int x5, .int x1] rfl (fun _ => rfl) rfl ?_
        refine dg_s (pc' := 74) [.int (x1 / x5)] rfl (fun _ => rfl) rfl ?_
        refine dg_s (pc' := 75) [.int (3 : Int32), .int (x1 / x5)] rfl (fun _ => rfl) rfl ?_
        refine dg_s (pc' := 76) [.int ((x1 / x5) - (x1 / x5) / (3 : Int32) * (3 : Int32))] rfl (fun _ => rfl) rfl ?_
        refine dg_L (pc' := 78) [(7, .int ((x1 / x5) - (x1 / x5) / (3 : Int32) * (3 : Int32))), (0, .ref x0), (1, .int x1), (2, .long x2), (4, .int x4), (5, .int x5), (6, .int x6)] [] rfl (fun _ => rfl) rfl ?_
        refine dg_s (pc' := 80) [.int ((x1 / x5) - (x1 / x5) / (3 : Int32) * (3 : Int32))] rfl (fun _ => rfl) rfl ?_
        refine dg_s (pc' := 81) [.int (2 : Int32), .int ((x1 / x5) - (x1 / x5) / (3 : Int32) * (3 : Int32))] rfl (fun _ => rfl) rfl ?_
        refine dw_if (fun t => Φ (Option.bind t (dc_bk (d_X10_layCubes_l56s x0 x1 x2 m)))) ((Int32.toInt ((x1 / x5) - (x1 / x5) / (3 : Int32) * (3 : Int32))) = 2) [] 107 84 rfl (fun _ => rfl) (fun c2 => ?_) (fun c2 => ?_)
        · refine dw_g rfl ?_
          refine dg_s (pc' := 108) [.int (1 : Int32)] rfl (fun _ => rfl) rfl ?_
          refine dg_s (pc' := 112) [.int (1 : Int32)] rfl (fun _ => rfl) rfl ?_
          refine dg_L (pc' := 114) [(4, .int (1 : Int32)), (7, .int ((x1 / x5) - (x1 / x5) / (3 : Int32) * (3 : Int32))), (0, .ref x0), (1, .int x1), (2, .long x2), (5, .int x5), (6, .int x6)] [] rfl (fun _ => rfl) rfl ?_
          refine dg_s (pc' := 116) [.int x5] rfl (fun _ => rfl) rfl ?_
          refine dg_s (pc' := 117) [.int (3 : Int32), .int x5] rfl (fun _ => rfl) rfl ?_
          refine dg_s (pc' := 118) [.int (x5 * (3 : Int32))] rfl (fun _ => rfl) rfl ?_
          refine dg_L (pc' := 120) [(5, .int (x5 * (3 : Int32))), (4, .int (1 : Int32)), (7, .int ((x1 / x5) - (x1 / x5) / (3 : Int32) * (3 : Int32))), (0, .ref x0), (1, .int x1), (2, .long x2), (6, .int x6)] [] rfl (fun _ => rfl) rfl ?_
          refine dg_L (pc' := 123) [(6, .int (x6 + (1 : Int32))), (5, .int (x5 * (3 : Int32))), (4, .int (1 : Int32)), (7, .int ((x1 / x5) - (x1 / x5) / (3 : Int32) * (3 : Int32))), (0, .ref x0), (1, .int x1), (2, .long x2)] [] rfl (fun _ => rfl) rfl ?_
          refine dw_s (pc' := 56) [] rfl (fun _ => rfl) ?_
          exact dw_j rfl (fun lv1 hv => ih (1 : Int32) (x5 * (3 : Int32)) (x6 + (1 : Int32)) lv1 (hv.1 _ rfl) (hv.2.1 _ rfl) (hv.2.2.1 _ rfl) (hv.2.2.2.1 _ rfl) (hv.2.2.2.2.1 _ rfl) (hv.2.2.2.2.2.1 _ rfl))
        · refine dw_g rfl ?_
          refine dg_s (pc' := 85) [.ref x0] rfl (fun _ => rfl) rfl ?_
          refine dg_s (pc' := 86) [.int x1, .ref x0] rfl (fun _ => rfl) rfl ?_
          refine dg_s (pc' := 87) [.int (2 : Int32), .int x1, .ref x0] rfl (fun _ => rfl) rfl ?_
          refine dg_s (pc' := 89) [.int ((x1 / x5) - (x1 / x5) / (3 : Int32) * (3 : Int32)), .int (2 : Int32), .int x1, .ref x0] rfl (fun _ => rfl) rfl ?_
          refine dg_s (pc' := 90) [.int ((2 : Int32) - ((x1 / x5) - (x1 / x5) / (3 : Int32) * (3 : Int32))), .int x1, .ref x0] rfl (fun _ => rfl) rfl ?_
          refine dg_s (pc' := 92) [.int x5, .int ((2 : Int32) - ((x1 / x5) - (x1 / x5) / (3 : Int32) * (3 : Int32))), .int x1, .ref x0] rfl (fun _ => rfl) rfl ?_
          refine dg_s (pc' := 93) [.int (((2 : Int32) - ((x1 / x5) - (x1 / x5) / (3 : Int32) * (3 : Int32))) * x5), .int x1, .ref x0] rfl (fun _ => rfl) rfl ?_
          refine dg_s (pc' := 94) [.int (x1 + (((2 : Int32) - ((x1 / x5) - (x1 / x5) / (3 : Int32) * (3 : Int32))) * x5)), .ref x0] rfl (fun _ => rfl) rfl ?_
          refine dw_b (fun t => Φ (Option.bind t (dc_bk (d_X10_layCubes_l56s x0 x1 x2 m)))) (pc' := 97) (fun q1 => [.long q1]) (fun q1 => m) rfl (fun _ => rfl) (fun q1 => ?_)
          refine dw_g rfl ?_
          refine dg_s (pc' := 98) [.ref x0, .long q1] rfl (fun _ => rfl) rfl ?_
          refine dg_s (pc' := 101) [.long (m.2.1 x0 48), .long q1] rfl (fun _ => rfl) rfl ?_
          refine dg_s (pc' := 102) [.long (q1 &&& (m.2.1 x0 48))] rfl (fun _ => rfl) rfl ?_
          refine dg_s (pc' := 103) [.long (0 : Int64), .long (q1 &&& (m.2.1 x0 48))] rfl (fun _ => rfl) rfl ?_
          refine dg_s (pc' := 104) [.int (lg_cmp (q1 &&& (m.2.1 x0 48)) (0 : Int64))] rfl (fun _ => rfl) rfl ?_
          refine dw_if (fun t => Φ (Option.bind t (dc_bk (d_X10_layCubes_l56s x0 x1 x2 m)))) ((Int32.toInt (lg_cmp (q1 &&& (m.2.1 x0 48)) (0 : Int64))) = 0) [] 111 107 rfl (fun _ => rfl) (fun c3 => ?_) (fun c3 => ?_)
          · refine dw_g rfl ?_
            refine dg_s (pc' := 112) [.int (0 : Int32)] rfl (fun _ => rfl) rfl ?_
            refine dg_L (pc' := 114) [(4, .int (0 : Int32)), (7, .int ((x1 / x5) - (x1 / x5) / (3 : Int32) * (3 : Int32))), (0, .ref x0), (1, .int x1), (2, .long x2), (5, .int x5), (6, .int x6)] [] rfl (fun _ => rfl) rfl ?_
            refine dg_s (pc' := 116) [.int x5] rfl (fun _ => rfl) rfl ?_
            refine dg_s (pc' := 117) [.int (3 : Int32), .int x5] rfl (fun _ => rfl) rfl ?_
            refine dg_s (pc' := 118) [.int (x5 * (3 : Int32))] rfl (fun _ => rfl) rfl ?_
            refine dg_L (pc' := 120) [(5, .int (x5 * (3 : Int32))), (4, .int (0 : Int32)), (7, .int ((x1 / x5) - (x1 / x5) / (3 : Int32) * (3 : Int32))), (0, .ref x0), (1, .int x1), (2, .long x2), (6, .int x6)] [] rfl (fun _ => rfl) rfl ?_
            refine dg_L (pc' := 123) [(6, .int (x6 + (1 : Int32))), (5, .int (x5 * (3 : Int32))), (4, .int (0 : Int32)), (7, .int ((x1 / x5) - (x1 / x5) / (3 : Int32) * (3 : Int32))), (0, .ref x0), (1, .int x1), (2, .long x2)] [] rfl (fun _ => rfl) rfl ?_
            refine dw_s (pc' := 56) [] rfl (fun _ => rfl) ?_
            exact dw_j rfl (fun lv1 hv => ih (0 : Int32) (x5 * (3 : Int32)) (x6 + (1 : Int32)) lv1 (hv.1 _ rfl) (hv.2.1 _ rfl) (hv.2.2.1 _ rfl) (hv.2.2.2.1 _ rfl) (hv.2.2.2.2.1 _ rfl) (hv.2.2.2.2.2.1 _ rfl))
          · refine dw_g rfl ?_
            refine dg_s (pc' := 108) [.int (1 : Int32)] rfl (fun _ => rfl) rfl ?_
            refine dg_s (pc' := 112) [.int (1 : Int32)] rfl (fun _ => rfl) rfl ?_
            refine dg_L (pc' := 114) [(4, .int (1 : Int32)), (7, .int ((x1 / x5) - (x1 / x5) / (3 : Int32) * (3 : Int32))), (0, .ref x0), (1, .int x1), (2, .long x2), (5, .int x5), (6, .int x6)] [] rfl (fun _ => rfl) rfl ?_
            refine dg_s (pc' := 116) [.int x5] rfl (fun _ => rfl) rfl ?_
            refine dg_s (pc' := 117) [.int (3 : Int32), .int x5] rfl (fun _ => rfl) rfl ?_
            refine dg_s (pc' := 118) [.int (x5 * (3 : Int32))] rfl (fun _ => rfl) rfl ?_
            refine dg_L (pc' := 120) [(5, .int (x5 * (3 : Int32))), (4, .int (1 : Int32)), (7, .int ((x1 / x5) - (x1 / x5) / (3 : Int32) * (3 : Int32))), (0, .ref x0), (1, .int x1), (2, .long x2), (6, .int x6)] [] rfl (fun _ => rfl) rfl ?_
            refine dg_L (pc' := 123) [(6, .int (x6 + (1 : Int32))), (5, .int (x5 * (3 : Int32))), (4, .int (1 : Int32)), (7, .int ((x1 / x5) - (x1 / x5) / (3 : Int32) * (3 : Int32))), (0, .ref x0), (1, .int x1), (2, .long x2)] [] rfl (fun _ => rfl) rfl ?_
            refine dw_s (pc' := 56) [] rfl (fun _ => rfl) ?_
            exact dw_j rfl (fun lv1 hv => ih (1 : Int32) (x5 * (3 : Int32)) (x6 + (1 : Int32)) lv1 (hv.1 _ rfl) (hv.2.1 _ rfl) (hv.2.2.1 _ rfl) (hv.2.2.2.1 _ rfl) (hv.2.2.2.2.1 _ rfl) (hv.2.2.2.2.2.1 _ rfl))
noncomputable def d_X10_layCubes_l7b (x0 : Nat) (x1 : Int32) (m : dc_M) : Option ((Int32 × dc_M) ⊕ dc_M) :=
  ((d_X10_cubeAll x0 m).bind (fun q1 => (if (Int32.toInt q1) ≤ (Int32.toInt x1) then some (Sum.inr (m)) else ((d_X10_levelsOf x0 x1 m).bind (fun q2 => (if ¬ (Int32.toInt (lg_cmp (q2 &&& (m.2.1 x0 48)) (0 : Int64))) = 0 then (d_X10_layCubes_l56 x0 x1 q2 (0 : Int32) (1 : Int32) (0 : Int32) m) else (if (Int32.toInt (lg_cmp (q2 &&& (m.2.1 x0 47)) (0 : Int64))) = 0 then (d_X10_layCubes_l56 x0 x1 q2 (0 : Int32) (1 : Int32) (0 : Int32) m) else (d_X10_layCubes_l56 x0 x1 q2 (1 : Int32) (1 : Int32) (0 : Int32) m))))))))
noncomputable def d_X10_layCubes_l7s (x0 : Nat) : (Int32 × dc_M) → Option ((Int32 × dc_M) ⊕ dc_M) := fun s => d_X10_layCubes_l7b x0 s.1 s.2
noncomputable def d_X10_layCubes_l7 (x0 : Nat) (x1 : Int32) (m : dc_M) : Option dc_M := dc_lp (d_X10_layCubes_l7s x0) (x1, m)
set_option maxHeartbeats 8000000 in
theorem k_X10_layCubes_l7 {u : Nat} {Φ : (Option dc_M) → Option Value → dc_M → Prop} (x0 : Nat) (kR : ∀  (m : dc_M), Φ (some (m)) (none) m) : ∀ (N : Nat), ∀ (x1 : Int32) (m : dc_M) (lv : ab_L), ab_lk lv 0 = some (.ref x0) → ab_lk lv 1 = some (.int x1) → dc_pv u N ab_M_X10_layCubes 7 lv [] m (Φ (d_X10_layCubes_l7 x0 x1 m)) := by
  intro N
  induction N with
  | zero => intros; exact dc_pv_zero
  | succ N ih =>
    intro x1 m lv f0 f1
    refine dc_ok (C := C_X10_layCubes) (S := S_X10_layCubes) CO_X10_layCubes 400 7 [(0, .ref x0), (1, .int x1)] lv [] m (dc_sub_cons f0 (dc_sub_cons f1 (dc_sub_nil))) ?_
    unfold d_X10_layCubes_l7
    rw [dc_lp_eq]
    show (fun t x => dc_lf u N ab_M_X10_layCubes (Φ (Option.bind t (dc_bk (d_X10_layCubes_l7s x0)))) x) (d_X10_layCubes_l7b x0 x1 m) _
    dsimp only
    unfold d_X10_layCubes_l7b
    refine dg_s (pc' := 8) [.int x1] rfl (fun _ => rfl) rfl ?_
    refine dg_s (pc' := 9) [.ref x0, .int x1] rfl (fun _ => rfl) rfl ?_
    refine dw_b (fun t => Φ (Option.bind t (dc_bk (d_X10_layCubes_l7s x0)))) (pc' := 12) (fun q1 => [.int q1, .int x1]) (fun q1 => m) rfl (fun _ => rfl) (fun q1 => ?_)
    refine dw_g rfl ?_
    refine dw_if (fun t => Φ (Option.bind t (dc_bk (d_X10_layCubes_l7s x0)))) ((Int32.toInt q1) ≤ (Int32.toInt x1)) [] 186 15 rfl (fun _ => rfl) (fun c0 => ?_) (fun c0 => ?_)
    · refine dw_g rfl ?_
      exact dw_r (some (.inl (none, m))) rfl (fun _ => rfl) (kR _)
    · refine dw_g rfl ?_
      refine dg_s (pc' := 16) [.ref x0] rfl (fun _ => rfl) rfl ?_
      refine dg_s (pc' := 17) [.int x1, .ref x0] rfl (fun _ => rfl) rfl ?_
      refine dw_b (fun t => Φ (Option.bind t (dc_bk (d_X10_layCubes_l7s x0)))) (pc' := 20) (fun q2 => [.long q2]) (fun q2 => m) rfl (fun _ => rfl) (fun q2 => ?_)
      refine dw_g rfl ?_
      refine dg_L (pc' := 21) [(2, .long q2), (0, .ref x0), (1, .int x1)] [] rfl (fun _ => rfl) rfl ?_
      refine dg_s (pc' := 22) [.long q2] rfl (fun _ => rfl) rfl ?_
      refine dg_s (pc' := 23) [.ref x0, .long q2] rfl (fun _ => rfl) rfl ?_
      refine dg_s (pc' := 26) [.long (m.2.1 x0 48), .long q2] rfl (fun _ => rfl) rfl ?_
      refine dg_s (pc' := 27) [.long (q2 &&& (m.2.1 x0 48))] rfl (fun _ => rfl) rfl ?_
      refine dg_s (pc' := 28) [.long (0 : Int64), .long (q2 &&& (m.2.1 x0 48))] rfl (fun _ => rfl) rfl ?_
      refine dg_s (pc' := 29) [.int (lg_cmp (q2 &&& (m.2.1 x0 48)) (0 : Int64))] rfl (fun _ => rfl) rfl ?_
      refine dw_if (fun t => Φ (Option.bind t (dc_bk (d_X10_layCubes_l7s x0)))) (¬ (Int32.toInt (lg_cmp (q2 &&& (m.2.1 x0 48)) (0 : Int64))) = 0) [] 47 32 rfl (fun _ => rfl) (fun c1 => ?_) (fun c1 => ?_)
      · refine dw_g rfl ?_
        refine dg_s (pc' := 48) [.int (0 : Int32)] rfl (fun _ => rfl) rfl ?_
        refine dg_L (pc' := 50) [(4, .int (0 : Int32)), (2, .long q2), (0, .ref x0), (1, .int x1)] [] rfl (fun _ => rfl) rfl ?_
        refine dg_s (pc' := 51) [.int (1 : Int32)] rfl (fun _ => rfl) rfl ?_
        refine dg_L (pc' := 53) [(5, .int (1 : Int32)), (4, .int (0 : Int32)), (2, .long q2), (0, .ref x0), (1, .int x1)] [] rfl (fun _ => rfl) rfl ?_
        refine dg_s (pc' := 54) [.int (0 : Int32)] rfl (fun _ => rfl) rfl ?_
        refine dw_L (pc' := 56) [(6, .int (0 : Int32)), (5, .int (1 : Int32)), (4, .int (0 : Int32)), (2, .long q2), (0, .ref x0), (1, .int x1)] [] rfl (fun _ => rfl) ?_
        exact dw_j rfl (fun lv1 hv => k_X10_layCubes_l56 (Φ := (fun t => Φ (Option.bind t (dc_bk (d_X10_layCubes_l7s x0))))) x0 x1 q2 m (fun _b => kR _b) N ih (0 : Int32) (1 : Int32) (0 : Int32) lv1 (hv.1 _ rfl) (hv.2.1 _ rfl) (hv.2.2.1 _ rfl) (hv.2.2.2.1 _ rfl) (hv.2.2.2.2.1 _ rfl) (hv.2.2.2.2.2.1 _ rfl))
      · refine dw_g rfl ?_
        refine dg_s (pc' := 33) [.long q2] rfl (fun _ => rfl) rfl ?_
        refine dg_s (pc' := 34) [.ref x0, .long q2] rfl (fun _ => rfl) rfl ?_
        refine dg_s (pc' := 37) [.long (m.2.1 x0 47), .long q2] rfl (fun _ => rfl) rfl ?_
        refine dg_s (pc' := 38) [.long (q2 &&& (m.2.1 x0 47))] rfl (fun _ => rfl) rfl ?_
        refine dg_s (pc' := 39) [.long (0 : Int64), .long (q2 &&& (m.2.1 x0 47))] rfl (fun _ => rfl) rfl ?_
        refine dg_s (pc' := 40) [.int (lg_cmp (q2 &&& (m.2.1 x0 47)) (0 : Int64))] rfl (fun _ => rfl) rfl ?_
        refine dw_if (fun t => Φ (Option.bind t (dc_bk (d_X10_layCubes_l7s x0)))) ((Int32.toInt (lg_cmp (q2 &&& (m.2.1 x0 47)) (0 : Int64))) = 0) [] 47 43 rfl (fun _ => rfl) (fun c2 => ?_) (fun c2 => ?_)
        · refine dw_g rfl ?_
          refine dg_s (pc' := 48) [.int (0 : Int32)] rfl (fun _ => rfl) rfl ?_
          refine dg_L (pc' := 50) [(4, .int (0 : Int32)), (2, .long q2), (0, .ref x0), (1, .int x1)] [] rfl (fun _ => rfl) rfl ?_
          refine dg_s (pc' := 51) [.int (1 : Int32)] rfl (fun _ => rfl) rfl ?_
          refine dg_L (pc' := 53) [(5, .int (1 : Int32)), (4, .int (0 : Int32)), (2, .long q2), (0, .ref x0), (1, .int x1)] [] rfl (fun _ => rfl) rfl ?_
          refine dg_s (pc' := 54) [.int (0 : Int32)] rfl (fun _ => rfl) rfl ?_
          refine dw_L (pc' := 56) [(6, .int (0 : Int32)), (5, .int (1 : Int32)), (4, .int (0 : Int32)), (2, .long q2), (0, .ref x0), (1, .int x1)] [] rfl (fun _ => rfl) ?_
          exact dw_j rfl (fun lv1 hv => k_X10_layCubes_l56 (Φ := (fun t => Φ (Option.bind t (dc_bk (d_X10_layCubes_l7s x0))))) x0 x1 q2 m (fun _b => kR _b) N ih (0 : Int32) (1 : Int32) (0 : Int32) lv1 (hv.1 _ rfl) (hv.2.1 _ rfl) (hv.2.2.1 _ rfl) (hv.2.2.2.1 _ rfl) (hv.2.2.2.2.1 _ rfl) (hv.2.2.2.2.2.1 _ rfl))
        · refine dw_g rfl ?_
          refine dg_s (pc' := 44) [.int (1 : Int32)] rfl (fun _ => rfl) rfl ?_
          refine dg_s (pc' := 48) [.int (1 : Int32)] rfl (fun _ => rfl) rfl ?_
          refine dg_L (pc' := 50) [(4, .int (1 : Int32)), (2, .long q2), (0, .ref x0), (1, .int x1)] [] rfl (fun _ => rfl) rfl ?_
          refine dg_s (pc' := 51) [.int (1 : Int32)] rfl (fun _ => rfl) rfl ?_
          refine dg_L (pc' := 53) [(5, .int (1 : Int32)), (4, .int (1 : Int32)), (2, .long q2), (0, .ref x0), (1, .int x1)] [] rfl (fun _ => rfl) rfl ?_
          refine dg_s (pc' := 54) [.int (0 : Int32)] rfl (fun _ => rfl) rfl ?_
          refine dw_L (pc' := 56) [(6, .int (0 : Int32)), (5, .int (1 : Int32)), (4, .int (1 : Int32)), (2, .long q2), (0, .ref x0), (1, .int x1)] [] rfl (fun _ => rfl) ?_
          exact dw_j rfl (fun lv1 hv => k_X10_layCubes_l56 (Φ := (fun t => Φ (Option.bind t (dc_bk (d_X10_layCubes_l7s x0))))) x0 x1 q2 m (fun _b => kR _b) N ih (1 : Int32) (1 : Int32) (0 : Int32) lv1 (hv.1 _ rfl) (hv.2.1 _ rfl) (hv.2.2.1 _ rfl) (hv.2.2.2.1 _ rfl) (hv.2.2.2.2.1 _ rfl) (hv.2.2.2.2.2.1 _ rfl))
noncomputable def d_X10_layCubes (x0 : Nat) (m : dc_M) : Option dc_M :=
  (d_X10_layCubes_l7 x0 (0 : Int32) (dc_wi m x0 49 (0 : Int32)))
set_option maxHeartbeats 8000000 in
theorem k_X10_layCubes {u : Nat} {N : Nat} {Φ : (Option dc_M) → Option Value → dc_M → Prop} (x0 : Nat) (m : dc_M) (kR : ∀  (m : dc_M), Φ (some (m)) (none) m)  {lv : ab_L} (f0 : ab_lk lv 0 = some (.ref x0)) : dc_pv u N ab_M_X10_layCubes 0 lv [] m (Φ (d_X10_layCubes x0 m)) := by
  refine dc_pv.mono (dc_ok (C := C_X10_layCubes) (S := S_X10_layCubes) CO_X10_layCubes 400 0 [(0, .ref x0)] lv [] m (dc_sub_cons f0 (dc_sub_nil)) ?_) (Nat.le_succ N)
  unfold d_X10_layCubes
  refine dg_s (pc' := 1) [.ref x0] rfl (fun _ => rfl) rfl ?_
  refine dg_s (pc' := 2) [.int (0 : Int32), .ref x0] rfl (fun _ => rfl) rfl ?_
  refine dg_m (pc' := 5) (dc_wi m x0 49 (0 : Int32)) [] rfl (fun _ => rfl) rfl ?_
  refine dg_s (pc' := 6) [.int (0 : Int32)] rfl (fun _ => rfl) rfl ?_
  refine dw_L (pc' := 7) [(1, .int (0 : Int32)), (0, .ref x0)] [] rfl (fun _ => rfl) ?_
  exact dw_j rfl (fun lv1 hv => k_X10_layCubes_l7 (Φ := (fun t => Φ t)) x0 (fun _b => kR _b) N  (0 : Int32) (dc_wi m x0 49 (0 : Int32)) lv1 (hv.1 _ rfl) (hv.2.1 _ rfl))
noncomputable def H_X10_layCubes : dc_H := fun As m k => match As with
  | [.ref x0] => (d_X10_layCubes x0 m).bind (fun q => k (none) q)
  | _ => dc_kz
theorem H_X10_layCubes_ok {u : Nat} : dc_cok u 193 H_X10_layCubes := fun M' hG N As m k P hz hP => by
  obtain rfl : ab_M_X10_layCubes = M' := Option.some.inj hG
  unfold H_X10_layCubes at hP
  split at hP
  · rename_i x0
    exact dc_pv.imp (k_X10_layCubes (Φ := fun (t : Option dc_M) r m' => P (t.bind (fun q => k (none) q)) → P (k r m')) x0 m (fun _ h => h) rfl) (fun r m' h => h hP)
  · exact absurd hP hz
noncomputable def C_X10_layMakes : List (Nat × dc_H) := [(196, H_X10_canMake), (193, H_X10_layCubes)]
theorem CO_X10_layMakes {u : Nat} : dc_CO u C_X10_layMakes := dc_CO_cons H_X10_canMake_ok (dc_CO_cons H_X10_layCubes_ok (dc_CO_nil))
def S_X10_layMakes : List (Nat × List Nat) := [(9, [0]), (42, [0])]
noncomputable def d_X10_layMakes_l42b (x0 : Nat)  (m : dc_M) : Option (dc_M ⊕ dc_M) :=
  ((d_X10_canMake x0 (0 : Int64) (m.1 x0 57) (m.1 x0 58) m).bind (fun q1 => (if ¬ (Int32.toInt q1.1) = 0 then some (Sum.inr (q1.2)) else some (Sum.inl (dc_wi q1.2 x0 58 ((q1.2.1 x0 58) + (1 : Int32)))))))
noncomputable def d_X10_layMakes_l42s (x0 : Nat) : dc_M → Option (dc_M ⊕ dc_M) := fun s => d_X10_layMakes_l42b x0 s
noncomputable def d_X10_layMakes_l42 (x0 : Nat)  (m : dc_M) : Option dc_M := dc_lp (d_X10_layMakes_l42s x0) m
set_option maxHeartbeats 8000000 in
theorem k_X10_layMakes_l42 {u : Nat} {Φ : (Option dc_M) → Option Value → dc_M → Prop} (x0 : Nat) (kR : ∀  (m : dc_M), Φ (some (m)) (none) m) : ∀ (N : Nat), ∀  (m : dc_M) (lv : ab_L), ab_lk lv 0 = some (.ref x0) → dc_pv u N ab_M_X10_layMakes 42 lv [] m (Φ (d_X10_layMakes_l42 x0  m)) := by
  intro N
  induction N with
  | zero => intros; exact dc_pv_zero
  | succ N ih =>
    intro m lv f0
    refine dc_ok (C := C_X10_layMakes) (S := S_X10_layMakes) CO_X10_layMakes 400 42 [(0, .ref x0)] lv [] m (dc_sub_cons f0 (dc_sub_nil)) ?_
    unfold d_X10_layMakes_l42
    rw [dc_lp_eq]
    show (fun t x => dc_lf u N ab_M_X10_layMakes (Φ (Option.bind t (dc_bk (d_X10_layMakes_l42s x0)))) x) (d_X10_layMakes_l42b x0  m) _
    dsimp only
    unfold d_X10_layMakes_l42b
    refine dg_s (pc' := 43) [.ref x0] rfl (fun _ => rfl) rfl ?_
    refine dg_s (pc' := 44) [.long (0 : Int64), .ref x0] rfl (fun _ => rfl) rfl ?_
    refine dg_s (pc' := 45) [.ref x0, .long (0 : Int64), .ref x0] rfl (fun _ => rfl) rfl ?_
    refine dg_s (pc' := 48) [.int (m.1 x0 57), .long (0 : Int64), .ref x0] rfl (fun _ => rfl) rfl ?_
    refine dg_s (pc' := 49) [.ref x0, .int (m.1 x0 57), .long (0 : Int64), .ref x0] rfl (fun _ => rfl) rfl ?_
    refine dg_s (pc' := 52) [.int (m.1 x0 58), .int (m.1 x0 57), .long (0 : Int64), .ref x0] rfl (fun _ => rfl) rfl ?_
    refine dw_b (fun t => Φ (Option.bind t (dc_bk (d_X10_layMakes_l42s x0)))) (pc' := 55) (fun q1 => [.int q1.1]) (fun q1 => q1.2) rfl (fun _ => rfl) (fun q1 => ?_)
    refine dw_g rfl ?_
    refine dw_if (fun t => Φ (Option.bind t (dc_bk (d_X10_layMakes_l42s x0)))) (¬ (Int32.toInt q1.1) = 0) [] 71 58 rfl (fun _ => rfl) (fun c0 => ?_) (fun c0 => ?_)
    · refine dw_g rfl ?_
      exact dw_r (some (.inl (none, q1.2))) rfl (fun _ => rfl) (kR _)
    · refine dw_g rfl ?_
      refine dg_s (pc' := 59) [.ref x0] rfl (fun _ => rfl) rfl ?_
      refine dg_s (pc' := 60) [.ref x0, .ref x0] rfl (fun _ => rfl) rfl ?_
      refine dg_s (pc' := 63) [.int (q1.2.1 x0 58), .ref x0] rfl (fun _ => rfl) rfl ?_
      refine dg_s (pc' := 64) [.int (1 : Int32), .int (q1.2.1 x0 58), .ref x0] rfl (fun _ => rfl) rfl ?_
      refine dg_s (pc' := 65) [.int ((q1.2.1 x0 58) + (1 : Int32)), .ref x0] rfl (fun _ => rfl) rfl ?_
      refine dg_m (pc' := 68) (dc_wi q1.2 x0 58 ((q1.2.1 x0 58) + (1 : Int32))) [] rfl (fun _ => rfl) rfl ?_
      refine dw_s (pc' := 42) [] rfl (fun _ => rfl) ?_
      exact dw_j rfl (fun lv1 hv => ih (dc_wi q1.2 x0 58 ((q1.2.1 x0 58) + (1 : Int32))) lv1 (hv.1 _ rfl))
noncomputable def d_X10_layMakes_l9b (x0 : Nat)  (m : dc_M) : Option (dc_M ⊕ dc_M) :=
  ((d_X10_canMake x0 (0 : Int64) (m.1 x0 57) (1000 : Int32) m).bind (fun q1 => (if ¬ (Int32.toInt q1.1) = 0 then ((d_X10_layMakes_l42 x0 (dc_wi q1.2 x0 58 (0 : Int32))).map (fun z => Sum.inr (z))) else some (Sum.inl (dc_wi q1.2 x0 57 ((q1.2.1 x0 57) + (1 : Int32)))))))
noncomputable def d_X10_layMakes_l9s (x0 : Nat) : dc_M → Option (dc_M ⊕ dc_M) := fun s => d_X10_layMakes_l9b x0 s
noncomputable def d_X10_layMakes_l9 (x0 : Nat)  (m : dc_M) : Option dc_M := dc_lp (d_X10_layMakes_l9s x0) m
set_option maxHeartbeats 8000000 in
theorem k_X10_layMakes_l9 {u : Nat} {Φ : (Option dc_M) → Option Value → dc_M → Prop} (x0 : Nat) (kR : ∀  (m : dc_M), Φ (some (m)) (none) m) : ∀ (N : Nat), ∀  (m : dc_M) (lv : ab_L), ab_lk lv 0 = some (.ref x0) → dc_pv u N ab_M_X10_layMakes 9 lv [] m (Φ (d_X10_layMakes_l9 x0  m)) := by
  intro N
  induction N with
  | zero => intros; exact dc_pv_zero
  | succ N ih =>
    intro m lv f0
    refine dc_ok (C := C_X10_layMakes) (S := S_X10_layMakes) CO_X10_layMakes 400 9 [(0, .ref x0)] lv [] m (dc_sub_cons f0 (dc_sub_nil)) ?_
    unfold d_X10_layMakes_l9
    rw [dc_lp_eq]
    show (fun t x => dc_lf u N ab_M_X10_layMakes (Φ (Option.bind t (dc_bk (d_X10_layMakes_l9s x0)))) x) (d_X10_layMakes_l9b x0  m) _
    dsimp only
    unfold d_X10_layMakes_l9b
    refine dg_s (pc' := 10) [.ref x0] rfl (fun _ => rfl) rfl ?_
    refine dg_s (pc' := 11) [.long (0 : Int64), .ref x0] rfl (fun _ => rfl) rfl ?_
    refine dg_s (pc' := 12) [.ref x0, .long (0 : Int64), .ref x0] rfl (fun _ => rfl) rfl ?_
    refine dg_s (pc' := 15) [.int (m.1 x0 57), .long (0 : Int64), .ref x0] rfl (fun _ => rfl) rfl ?_
    refine dg_s (pc' := 18) [.int (1000 : Int32), .int (m.1 x0 57), .long (0 : Int64), .ref x0] rfl (fun _ => rfl) rfl ?_
    refine dw_b (fun t => Φ (Option.bind t (dc_bk (d_X10_layMakes_l9s x0)))) (pc' := 21) (fun q1 => [.int q1.1]) (fun q1 => q1.2) rfl (fun _ => rfl) (fun q1 => ?_)
    refine dw_g rfl ?_
    refine dw_if (fun t => Φ (Option.bind t (dc_bk (d_X10_layMakes_l9s x0)))) (¬ (Int32.toInt q1.1) = 0) [] 37 24 rfl (fun _ => rfl) (fun c0 => ?_) (fun c0 => ?_)
    · refine dw_g rfl ?_
      refine dg_s (pc' := 38) [.ref x0] rfl (fun _ => rfl) rfl ?_
      refine dg_s (pc' := 39) [.int (0 : Int32), .ref x0] rfl (fun _ => rfl) rfl ?_
      refine dw_m (pc' := 42) (dc_wi q1.2 x0 58 (0 : Int32)) [] rfl (fun _ => rfl) ?_
      exact dw_j rfl (fun lv1 hv => k_X10_layMakes_l42 (Φ := (fun t => Φ (Option.bind (t.map (fun z => Sum.inr (z))) (dc_bk (d_X10_layMakes_l9s x0))))) x0 (fun _b => kR _b) N   (dc_wi q1.2 x0 58 (0 : Int32)) lv1 (hv.1 _ rfl))
    · refine dw_g rfl ?_
      refine dg_s (pc' := 25) [.ref x0] rfl (fun _ => rfl) rfl ?_
      refine dg_s (pc' := 26) [.ref x0, .ref x0] rfl (fun _ => rfl) rfl ?_
      refine dg_s (pc' := 29) [.int (q1.2.1 x0 57), .ref x0] rfl (fun _ => rfl) rfl ?_
      refine dg_s (pc' := 30) [.int (1 : Int32), .int (q1.2.1 x0 57), .ref x0] rfl (fun _ => rfl) rfl ?_
      refine dg_s (pc' := 31) [.int ((q1.2.1 x0 57) + (1 : Int32)), .ref x0] rfl (fun _ => rfl) rfl ?_
      refine dg_m (pc' := 34) (dc_wi q1.2 x0 57 ((q1.2.1 x0 57) + (1 : Int32))) [] rfl (fun _ => rfl) rfl ?_
      refine dw_s (pc' := 9) [] rfl (fun _ => rfl) ?_
      exact dw_j rfl (fun lv1 hv => ih (dc_wi q1.2 x0 57 ((q1.2.1 x0 57) + (1 : Int32))) lv1 (hv.1 _ rfl))
noncomputable def d_X10_layMakes (x0 : Nat) (m : dc_M) : Option dc_M :=
  ((d_X10_layCubes x0 m).bind (fun q1 => (d_X10_layMakes_l9 x0 (dc_wi q1 x0 57 (0 : Int32)))))
set_option maxHeartbeats 8000000 in
theorem k_X10_layMakes {u : Nat} {N : Nat} {Φ : (Option dc_M) → Option Value → dc_M → Prop} (x0 : Nat) (m : dc_M) (kR : ∀  (m : dc_M), Φ (some (m)) (none) m)  {lv : ab_L} (f0 : ab_lk lv 0 = some (.ref x0)) : dc_pv u N ab_M_X10_layMakes 0 lv [] m (Φ (d_X10_layMakes x0 m)) := by
  refine dc_pv.mono (dc_ok (C := C_X10_layMakes) (S := S_X10_layMakes) CO_X10_layMakes 400 0 [(0, .ref x0)] lv [] m (dc_sub_cons f0 (dc_sub_nil)) ?_) (Nat.le_succ N)
  unfold d_X10_layMakes
  refine dg_s (pc' := 1) [.ref x0] rfl (fun _ => rfl) rfl ?_
  refine dw_b (fun t => Φ t) (pc' := 4) (fun q1 => []) (fun q1 => q1) rfl (fun _ => rfl) (fun q1 => ?_)
  refine dw_g rfl ?_
  refine dg_s (pc' := 5) [.ref x0] rfl (fun _ => rfl) rfl ?_
  refine dg_s (pc' := 6) [.int (0 : Int32), .ref x0] rfl (fun _ => rfl) rfl ?_
  refine dw_m (pc' := 9) (dc_wi q1 x0 57 (0 : Int32)) [] rfl (fun _ => rfl) ?_
  exact dw_j rfl (fun lv1 hv => k_X10_layMakes_l9 (Φ := (fun t => Φ t)) x0 (fun _b => kR _b) N   (dc_wi q1 x0 57 (0 : Int32)) lv1 (hv.1 _ rfl))
noncomputable def H_X10_layMakes : dc_H := fun As m k => match As with
  | [.ref x0] => (d_X10_layMakes x0 m).bind (fun q => k (none) q)
  | _ => dc_kz
theorem H_X10_layMakes_ok {u : Nat} : dc_cok u 197 H_X10_layMakes := fun M' hG N As m k P hz hP => by
  obtain rfl : ab_M_X10_layMakes = M' := Option.some.inj hG
  unfold H_X10_layMakes at hP
  split at hP
  · rename_i x0
    exact dc_pv.imp (k_X10_layMakes (Φ := fun (t : Option dc_M) r m' => P (t.bind (fun q => k (none) q)) → P (k r m')) x0 m (fun _ h => h) rfl) (fun r m' h => h hP)
  · exact absurd hP hz
noncomputable def C_X10_makes : List (Nat × dc_H) := [(198, H_X10_cubeAt), (146, H_X10_in), (199, H_X10_isOwn), (188, H_X10_layAims), (197, H_X10_layMakes), (175, H_X10_layRight)]
theorem CO_X10_makes {u : Nat} : dc_CO u C_X10_makes := dc_CO_cons H_X10_cubeAt_ok (dc_CO_cons H_X10_in_ok (dc_CO_cons H_X10_isOwn_ok (dc_CO_cons H_X10_layAims_ok (dc_CO_cons H_X10_layMakes_ok (dc_CO_cons H_X10_layRight_ok (dc_CO_nil))))))
def S_X10_makes : List (Nat × List Nat) := [(34, [0, 1, 2])]
noncomputable def d_X10_makes_b34 (x0 : Nat) (x1 : Int32) (x2 : Int32) (m : dc_M) : Option (Int32 × dc_M) :=
  ((d_X10_layRight x0 m).bind (fun q1 => (if ¬ (Int32.toInt q1.1) = 0 then ((d_X10_layAims x0 x1 q1.2).bind (fun q2 => (if (Int32.toInt (lg_cmp ((q2.2.1 x0 47) &&& (q2.2.1 x0 48)) (0 : Int64))) = 0 then ((d_X10_layMakes x0 q2).bind (fun q3 => (if ¬ (Int32.toInt x2) = 0 then (if ¬ (Int32.toInt x2) = 1 then (if (Int32.toInt (q3.1 x0 57)) ≤ (Int32.toInt (x2 - (10 : Int32))) then some (((-4 : Int32), q3)) else ((d_X10_cubeAt x0 (x2 - (10 : Int32)) q3).bind (fun q4 => some ((q4.1, q4.2))))) else some (((q3.1 x0 58), q3))) else some (((q3.1 x0 57), q3))))) else some (((-2 : Int32), q2))))) else some (((-2 : Int32), q1.2)))))
set_option maxHeartbeats 8000000 in
theorem k_X10_makes_b34 {u : Nat} {N : Nat} {Φ : (Option (Int32 × dc_M)) → Option Value → dc_M → Prop} (x0 : Nat) (x1 : Int32) (x2 : Int32) (m : dc_M) (kR : ∀ (v : Int32) (m : dc_M), Φ (some ((v, m))) (some (.int v)) m)  {lv : ab_L} (f0 : ab_lk lv 0 = some (.ref x0)) (f1 : ab_lk lv 1 = some (.int x1)) (f2 : ab_lk lv 2 = some (.int x2)) : dc_pv u N ab_M_X10_makes 34 lv [] m (Φ (d_X10_makes_b34 x0 x1 x2 m)) := by
  refine dc_pv.mono (dc_ok (C := C_X10_makes) (S := S_X10_makes) CO_X10_makes 400 34 [(0, .ref x0), (1, .int x1), (2, .int x2)] lv [] m (dc_sub_cons f0 (dc_sub_cons f1 (dc_sub_cons f2 (dc_sub_nil)))) ?_) (Nat.le_succ N)
  unfold d_X10_makes_b34
  refine dg_s (pc' := 35) [.ref x0] rfl (fun _ => rfl) rfl ?_
  refine dw_b (fun t => Φ t) (pc' := 38) (fun q1 => [.int q1.1]) (fun q1 => q1.2) rfl (fun _ => rfl) (fun q1 => ?_)
  refine dw_g rfl ?_
  refine dw_if (fun t => Φ t) (¬ (Int32.toInt q1.1) = 0) [] 44 41 rfl (fun _ => rfl) (fun c0 => ?_) (fun c0 => ?_)
  · refine dw_g rfl ?_
    refine dg_s (pc' := 45) [.ref x0] rfl (fun _ => rfl) rfl ?_
    refine dg_s (pc' := 46) [.int x1, .ref x0] rfl (fun _ => rfl) rfl ?_
    refine dw_b (fun t => Φ t) (pc' := 49) (fun q2 => []) (fun q2 => q2) rfl (fun _ => rfl) (fun q2 => ?_)
    refine dw_g rfl ?_
    refine dg_s (pc' := 50) [.ref x0] rfl (fun _ => rfl) rfl ?_
    refine dg_s (pc' := 53) [.long (q2.2.1 x0 47)] rfl (fun _ => rfl) rfl ?_
    refine dg_s (pc' := 54) [.ref x0, .long (q2.2.1 x0 47)] rfl (fun _ => rfl) rfl ?_
    refine dg_s (pc' := 57) [.long (q2.2.1 x0 48), .long (q2.2.1 x0 47)] rfl (fun _ => rfl) rfl ?_
    refine dg_s (pc' := 58) [.long ((q2.2.1 x0 47) &&& (q2.2.1 x0 48))] rfl (fun _ => rfl) rfl ?_
    refine dg_s (pc' := 59) [.long (0 : Int64), .long ((q2.2.1 x0 47) &&& (q2.2.1 x0 48))] rfl (fun _ => rfl) rfl ?_
    refine dg_s (pc' := 60) [.int (lg_cmp ((q2.2.1 x0 47) &&& (q2.2.1 x0 48)) (0 : Int64))] rfl (fun _ => rfl) rfl ?_
    refine dw_if (fun t => Φ t) ((Int32.toInt (lg_cmp ((q2.2.1 x0 47) &&& (q2.2.1 x0 48)) (0 : Int64))) = 0) [] 66 63 rfl (fun _ => rfl) (fun c1 => ?_) (fun c1 => ?_)
    · refine dw_g rfl ?_
      refine dg_s (pc' := 67) [.ref x0] rfl (fun _ => rfl) rfl ?_
      refine dw_b (fun t => Φ t) (pc' := 70) (fun q3 => []) (fun q3 => q3) rfl (fun _ => rfl) (fun q3 => ?_)
      refine dw_g rfl ?_
      refine dg_s (pc' := 71) [.int x2] rfl (fun _ => rfl) rfl ?_
      refine dw_if (fun t => Φ t) (¬ (Int32.toInt x2) = 0) [] 81 74 rfl (fun _ => rfl) (fun c2 => ?_) (fun c2 => ?_)
      · refine dw_g rfl ?_
        refine dg_s (pc' := 82) [.int x2] rfl (fun _ => rfl) rfl ?_
        refine dg_s (pc' := 83) [.int (1 : Int32), .int x2] rfl (fun _ => rfl) rfl ?_
        refine dw_if (fun t => Φ t) (¬ (Int32.toInt x2) = 1) [] 93 86 rfl (fun _ => rfl) (fun c3 => ?_) (fun c3 => ?_)
        · refine dw_g rfl ?_
          refine dg_s (pc' := 94) [.int x2] rfl (fun _ => rfl) rfl ?_
          refine dg_s (pc' := 96) [.int (10 : Int32), .int x2] rfl (fun _ => rfl) rfl ?_
          refine dg_s (pc' := 97) [.int (x2 - (10 : Int32))] rfl (fun _ => rfl) rfl ?_
          refine dg_s (pc' := 98) [.ref x0, .int (x2 - (10 : Int32))] rfl (fun _ => rfl) rfl ?_
          refine dg_s (pc' := 101) [.int (q3.1 x0 57), .int (x2 - (10 : Int32))] rfl (fun _ => rfl) rfl ?_
          refine dw_if (fun t => Φ t) ((Int32.toInt (q3.1 x0 57)) ≤ (Int32.toInt (x2 - (10 : Int32)))) [] 115 104 rfl (fun _ => rfl) (fun c4 => ?_) (fun c4 => ?_)
          · refine dw_g rfl ?_
            refine dg_s (pc' := 117) [.int (-4 : Int32)] rfl (fun _ => rfl) rfl ?_
            exact dw_r (some (.inl (some (.int (-4 : Int32)), q3))) rfl (fun _ => rfl) (kR _ _)
          · refine dw_g rfl ?_
            refine dg_s (pc' := 105) [.ref x0] rfl (fun _ => rfl) rfl ?_
            refine dg_s (pc' := 106) [.int x2, .ref x0] rfl (fun _ => rfl) rfl ?_
            refine dg_s (pc' := 108) [.int (10 : Int32), .int x2, .ref x0] rfl (fun _ => rfl) rfl ?_
            refine dg_s (pc' := 109) [.int (x2 - (10 : Int32)), .ref x0] rfl (fun _ => rfl) rfl ?_
            refine dw_b (fun t => Φ t) (pc' := 112) (fun q4 => [.int q4.1]) (fun q4 => q4.2) rfl (fun _ => rfl) (fun q4 => ?_)
            refine dw_g rfl ?_
            refine dg_s (pc' := 117) [.int q4.1] rfl (fun _ => rfl) rfl ?_
            exact dw_r (some (.inl (some (.int q4.1), q4.2))) rfl (fun _ => rfl) (kR _ _)
        · refine dw_g rfl ?_
          refine dg_s (pc' := 87) [.ref x0] rfl (fun _ => rfl) rfl ?_
          refine dg_s (pc' := 90) [.int (q3.1 x0 58)] rfl (fun _ => rfl) rfl ?_
          refine dg_s (pc' := 117) [.int (q3.1 x0 58)] rfl (fun _ => rfl) rfl ?_
          exact dw_r (some (.inl (some (.int (q3.1 x0 58)), q3))) rfl (fun _ => rfl) (kR _ _)
      · refine dw_g rfl ?_
        refine dg_s (pc' := 75) [.ref x0] rfl (fun _ => rfl) rfl ?_
        refine dg_s (pc' := 78) [.int (q3.1 x0 57)] rfl (fun _ => rfl) rfl ?_
        refine dg_s (pc' := 117) [.int (q3.1 x0 57)] rfl (fun _ => rfl) rfl ?_
        exact dw_r (some (.inl (some (.int (q3.1 x0 57)), q3))) rfl (fun _ => rfl) (kR _ _)
    · refine dw_g rfl ?_
      refine dg_s (pc' := 65) [.int (-2 : Int32)] rfl (fun _ => rfl) rfl ?_
      exact dw_r (some (.inl (some (.int (-2 : Int32)), q2))) rfl (fun _ => rfl) (kR _ _)
  · refine dw_g rfl ?_
    refine dg_s (pc' := 43) [.int (-2 : Int32)] rfl (fun _ => rfl) rfl ?_
    exact dw_r (some (.inl (some (.int (-2 : Int32)), q1.2))) rfl (fun _ => rfl) (kR _ _)
noncomputable def d_X10_makes (x0 : Nat) (x1 : Int32) (x2 : Int32) (m : dc_M) : Option (Int32 × dc_M) :=
  (if (Int32.toInt (d_X10_isOwn x0 x1 m)) = 0 then some (((-1 : Int32), m)) else (if ¬ (Int32.toInt (d_X10_in (Int32.toInt64 x2) (0 : Int64) (1 : Int64) m)) = 0 then (d_X10_makes_b34 x0 x1 x2 m) else (if ¬ (Int32.toInt (d_X10_in (Int32.toInt64 x2) (10 : Int64) (73 : Int64) m)) = 0 then (d_X10_makes_b34 x0 x1 x2 m) else some (((-1 : Int32), m)))))
set_option maxHeartbeats 8000000 in
theorem k_X10_makes {u : Nat} {N : Nat} {Φ : (Option (Int32 × dc_M)) → Option Value → dc_M → Prop} (x0 : Nat) (x1 : Int32) (x2 : Int32) (m : dc_M) (kR : ∀ (v : Int32) (m : dc_M), Φ (some ((v, m))) (some (.int v)) m)  {lv : ab_L} (f0 : ab_lk lv 0 = some (.ref x0)) (f1 : ab_lk lv 1 = some (.int x1)) (f2 : ab_lk lv 2 = some (.int x2)) : dc_pv u N ab_M_X10_makes 0 lv [] m (Φ (d_X10_makes x0 x1 x2 m)) := by
  refine dc_pv.mono (dc_ok (C := C_X10_makes) (S := S_X10_makes) CO_X10_makes 400 0 [(0, .ref x0), (1, .int x1), (2, .int x2)] lv [] m (dc_sub_cons f0 (dc_sub_cons f1 (dc_sub_cons f2 (dc_sub_nil)))) ?_) (Nat.le_succ N)
  unfold d_X10_makes
  refine dg_s (pc' := 1) [.ref x0] rfl (fun _ => rfl) rfl ?_
  refine dg_s (pc' := 2) [.int x1, .ref x0] rfl (fun _ => rfl) rfl ?_
  refine dg_s (pc' := 5) [.int (d_X10_isOwn x0 x1 m)] rfl (fun _ => rfl) rfl ?_
  refine dw_if (fun t => Φ t) ((Int32.toInt (d_X10_isOwn x0 x1 m)) = 0) [] 32 8 rfl (fun _ => rfl) (fun c0 => ?_) (fun c0 => ?_)
  · refine dw_g rfl ?_
    refine dg_s (pc' := 33) [.int (-1 : Int32)] rfl (fun _ => rfl) rfl ?_
    exact dw_r (some (.inl (some (.int (-1 : Int32)), m))) rfl (fun _ => rfl) (kR _ _)
  · refine dw_g rfl ?_
    refine dg_s (pc' := 9) [.int x2] rfl (fun _ => rfl) rfl ?_
    refine dg_s (pc' := 10) [.long (Int32.toInt64 x2)] rfl (fun _ => rfl) rfl ?_
    refine dg_s (pc' := 11) [.long (0 : Int64), .long (Int32.toInt64 x2)] rfl (fun _ => rfl) rfl ?_
    refine dg_s (pc' := 12) [.long (1 : Int64), .long (0 : Int64), .long (Int32.toInt64 x2)] rfl (fun _ => rfl) rfl ?_
    refine dg_s (pc' := 15) [.int (d_X10_in (Int32.toInt64 x2) (0 : Int64) (1 : Int64) m)] rfl (fun _ => rfl) rfl ?_
    refine dw_if (fun t => Φ t) (¬ (Int32.toInt (d_X10_in (Int32.toInt64 x2) (0 : Int64) (1 : Int64) m)) = 0) [] 34 18 rfl (fun _ => rfl) (fun c1 => ?_) (fun c1 => ?_)
    · exact dw_j rfl (fun lv1 hv => k_X10_makes_b34 (Φ := (fun t => Φ t)) x0 x1 x2 m (fun _a _b => kR _a _b)  (hv.1 _ rfl) (hv.2.1 _ rfl) (hv.2.2.1 _ rfl))
    · refine dw_g rfl ?_
      refine dg_s (pc' := 19) [.int x2] rfl (fun _ => rfl) rfl ?_
      refine dg_s (pc' := 20) [.long (Int32.toInt64 x2)] rfl (fun _ => rfl) rfl ?_
      refine dg_s (pc' := 23) [.long (10 : Int64), .long (Int32.toInt64 x2)] rfl (fun _ => rfl) rfl ?_
      refine dg_s (pc' := 26) [.long (73 : Int64), .long (10 : Int64), .long (Int32.toInt64 x2)] rfl (fun _ => rfl) rfl ?_
      refine dg_s (pc' := 29) [.int (d_X10_in (Int32.toInt64 x2) (10 : Int64) (73 : Int64) m)] rfl (fun _ => rfl) rfl ?_
      refine dw_if (fun t => Φ t) (¬ (Int32.toInt (d_X10_in (Int32.toInt64 x2) (10 : Int64) (73 : Int64) m)) = 0) [] 34 32 rfl (fun _ => rfl) (fun c2 => ?_) (fun c2 => ?_)
      · exact dw_j rfl (fun lv1 hv => k_X10_makes_b34 (Φ := (fun t => Φ t)) x0 x1 x2 m (fun _a _b => kR _a _b)  (hv.1 _ rfl) (hv.2.1 _ rfl) (hv.2.2.1 _ rfl))
      · refine dw_g rfl ?_
        refine dg_s (pc' := 33) [.int (-1 : Int32)] rfl (fun _ => rfl) rfl ?_
        exact dw_r (some (.inl (some (.int (-1 : Int32)), m))) rfl (fun _ => rfl) (kR _ _)
noncomputable def H_X10_makes : dc_H := fun As m k => match As with
  | [.ref x0, .int x1, .int x2] => (d_X10_makes x0 x1 x2 m).bind (fun q => k (some (.int q.1)) q.2)
  | _ => dc_kz
theorem H_X10_makes_ok {u : Nat} : dc_cok u 200 H_X10_makes := fun M' hG N As m k P hz hP => by
  obtain rfl : ab_M_X10_makes = M' := Option.some.inj hG
  unfold H_X10_makes at hP
  split at hP
  · rename_i x0 x1 x2
    exact dc_pv.imp (k_X10_makes (Φ := fun (t : Option (Int32 × dc_M)) r m' => P (t.bind (fun q => k (some (.int q.1)) q.2)) → P (k r m')) x0 x1 x2 m (fun _ _ h => h) rfl rfl rfl) (fun r m' h => h hP)
  · exact absurd hP hz
noncomputable def C_X10_cost : List (Nat × dc_H) := [(188, H_X10_layAims), (197, H_X10_layMakes), (183, H_X10_layQuarrels), (175, H_X10_layRight)]
theorem CO_X10_cost {u : Nat} : dc_CO u C_X10_cost := dc_CO_cons H_X10_layAims_ok (dc_CO_cons H_X10_layMakes_ok (dc_CO_cons H_X10_layQuarrels_ok (dc_CO_cons H_X10_layRight_ok (dc_CO_nil))))
def S_X10_cost : List (Nat × List Nat) := [(28, [0, 1, 2])]
noncomputable def d_X10_cost_l28b (x0 : Nat) (x1 : Int32) (x2 : Int32) (m : dc_M) : Option ((Int32 × Int32 × dc_M) ⊕ (Int32 × dc_M)) :=
  (if (Int32.toInt (m.1 x0 0)) ≤ (Int32.toInt x2) then some (Sum.inr ((x1, m))) else (if (Int32.toInt (m.1 (x0 + 2) (Int32.toNatClampNeg x2))) ≤ 0 then some (Sum.inl (x1, (x2 + (1 : Int32)), m)) else ((d_X10_layAims x0 x2 m).bind (fun q1 => ((d_X10_layMakes x0 q1).bind (fun q2 => some (Sum.inl ((x1 + (q2.1 x0 58)), (x2 + (1 : Int32)), q2))))))))
noncomputable def d_X10_cost_l28s (x0 : Nat) : (Int32 × Int32 × dc_M) → Option ((Int32 × Int32 × dc_M) ⊕ (Int32 × dc_M)) := fun s => d_X10_cost_l28b x0 s.1 s.2.1 s.2.2
noncomputable def d_X10_cost_l28 (x0 : Nat) (x1 : Int32) (x2 : Int32) (m : dc_M) : Option (Int32 × dc_M) := dc_lp (d_X10_cost_l28s x0) (x1, x2, m)
set_option maxHeartbeats 8000000 in
theorem k_X10_cost_l28 {u : Nat} {Φ : (Option (Int32 × dc_M)) → Option Value → dc_M → Prop} (x0 : Nat) (kR : ∀ (v : Int32) (m : dc_M), Φ (some ((v, m))) (some (.int v)) m) : ∀ (N : Nat), ∀ (x1 : Int32) (x2 : Int32) (m : dc_M) (lv : ab_L), ab_lk lv 0 = some (.ref x0) → ab_lk lv 1 = some (.int x1) → ab_lk lv 2 = some (.int x2) → dc_pv u N ab_M_X10_cost 28 lv [] m (Φ (d_X10_cost_l28 x0 x1 x2 m)) := by
  intro N
  induction N with
  | zero => intros; exact dc_pv_zero
  | succ N ih =>
    intro x1 x2 m lv f0 f1 f2
    refine dc_ok (C := C_X10_cost) (S := S_X10_cost) CO_X10_cost 400 28 [(0, .ref x0), (1, .int x1), (2, .int x2)] lv [] m (dc_sub_cons f0 (dc_sub_cons f1 (dc_sub_cons f2 (dc_sub_nil)))) ?_
    unfold d_X10_cost_l28
    rw [dc_lp_eq]
    show (fun t x => dc_lf u N ab_M_X10_cost (Φ (Option.bind t (dc_bk (d_X10_cost_l28s x0)))) x) (d_X10_cost_l28b x0 x1 x2 m) _
    dsimp only
    unfold d_X10_cost_l28b
    refine dg_s (pc' := 29) [.int x2] rfl (fun _ => rfl) rfl ?_
    refine dg_s (pc' := 30) [.ref x0, .int x2] rfl (fun _ => rfl) rfl ?_
    refine dg_s (pc' := 33) [.int (m.1 x0 0), .int x2] rfl (fun _ => rfl) rfl ?_
    refine dw_if (fun t => Φ (Option.bind t (dc_bk (d_X10_cost_l28s x0)))) ((Int32.toInt (m.1 x0 0)) ≤ (Int32.toInt x2)) [] 67 36 rfl (fun _ => rfl) (fun c0 => ?_) (fun c0 => ?_)
    · refine dw_g rfl ?_
      refine dg_s (pc' := 68) [.int x1] rfl (fun _ => rfl) rfl ?_
      exact dw_r (some (.inl (some (.int x1), m))) rfl (fun _ => rfl) (kR _ _)
    · refine dw_g rfl ?_
      refine dg_s (pc' := 37) [.ref x0] rfl (fun _ => rfl) rfl ?_
      refine dg_s (pc' := 40) [.ref (x0 + 2)] rfl (fun _ => rfl) rfl ?_
      refine dg_s (pc' := 41) [.int x2, .ref (x0 + 2)] rfl (fun _ => rfl) rfl ?_
      refine dg_s (pc' := 42) [.int (m.1 (x0 + 2) (Int32.toNatClampNeg x2))] rfl (fun _ => rfl) rfl ?_
      refine dw_if (fun t => Φ (Option.bind t (dc_bk (d_X10_cost_l28s x0)))) ((Int32.toInt (m.1 (x0 + 2) (Int32.toNatClampNeg x2))) ≤ 0) [] 61 45 rfl (fun _ => rfl) (fun c1 => ?_) (fun c1 => ?_)
      · refine dw_g rfl ?_
        refine dg_L (pc' := 64) [(2, .int (x2 + (1 : Int32))), (0, .ref x0), (1, .int x1)] [] rfl (fun _ => rfl) rfl ?_
        refine dw_s (pc' := 28) [] rfl (fun _ => rfl) ?_
        exact dw_j rfl (fun lv1 hv => ih x1 (x2 + (1 : Int32)) m lv1 (hv.1 _ rfl) (hv.2.1 _ rfl) (hv.2.2.1 _ rfl))
      · refine dw_g rfl ?_
        refine dg_s (pc' := 46) [.ref x0] rfl (fun _ => rfl) rfl ?_
        refine dg_s (pc' := 47) [.int x2, .ref x0] rfl (fun _ => rfl) rfl ?_
        refine dw_b (fun t => Φ (Option.bind t (dc_bk (d_X10_cost_l28s x0)))) (pc' := 50) (fun q1 => []) (fun q1 => q1) rfl (fun _ => rfl) (fun q1 => ?_)
        refine dw_g rfl ?_
        refine dg_s (pc' := 51) [.ref x0] rfl (fun _ => rfl) rfl ?_
        refine dw_b (fun t => Φ (Option.bind t (dc_bk (d_X10_cost_l28s x0)))) (pc' := 54) (fun q2 => []) (fun q2 => q2) rfl (fun _ => rfl) (fun q2 => ?_)
        refine dw_g rfl ?_
        refine dg_s (pc' := 55) [.int x1] rfl (fun _ => rfl) rfl ?_
        refine dg_s (pc' := 56) [.ref x0, .int x1] rfl (fun _ => rfl) rfl ?_
        refine dg_s (pc' := 59) [.int (q2.1 x0 58), .int x1] rfl (fun _ => rfl) rfl ?_
        refine dg_s (pc' := 60) [.int (x1 + (q2.1 x0 58))] rfl (fun _ => rfl) rfl ?_
        refine dg_L (pc' := 61) [(1, .int (x1 + (q2.1 x0 58))), (0, .ref x0), (2, .int x2)] [] rfl (fun _ => rfl) rfl ?_
        refine dg_L (pc' := 64) [(2, .int (x2 + (1 : Int32))), (1, .int (x1 + (q2.1 x0 58))), (0, .ref x0)] [] rfl (fun _ => rfl) rfl ?_
        refine dw_s (pc' := 28) [] rfl (fun _ => rfl) ?_
        exact dw_j rfl (fun lv1 hv => ih (x1 + (q2.1 x0 58)) (x2 + (1 : Int32)) q2 lv1 (hv.1 _ rfl) (hv.2.1 _ rfl) (hv.2.2.1 _ rfl))
noncomputable def d_X10_cost (x0 : Nat) (m : dc_M) : Option (Int32 × dc_M) :=
  ((d_X10_layRight x0 m).bind (fun q1 => (if ¬ (Int32.toInt q1.1) = 0 then ((d_X10_layQuarrels x0 q1.2).bind (fun q2 => (if (Int32.toInt (q2.1 x0 40)) ≤ 0 then (d_X10_cost_l28 x0 (0 : Int32) (0 : Int32) q2) else some (((-2 : Int32), q2))))) else some (((-2 : Int32), q1.2)))))
set_option maxHeartbeats 8000000 in
theorem k_X10_cost {u : Nat} {N : Nat} {Φ : (Option (Int32 × dc_M)) → Option Value → dc_M → Prop} (x0 : Nat) (m : dc_M) (kR : ∀ (v : Int32) (m : dc_M), Φ (some ((v, m))) (some (.int v)) m)  {lv : ab_L} (f0 : ab_lk lv 0 = some (.ref x0)) : dc_pv u N ab_M_X10_cost 0 lv [] m (Φ (d_X10_cost x0 m)) := by
  refine dc_pv.mono (dc_ok (C := C_X10_cost) (S := S_X10_cost) CO_X10_cost 400 0 [(0, .ref x0)] lv [] m (dc_sub_cons f0 (dc_sub_nil)) ?_) (Nat.le_succ N)
  unfold d_X10_cost
  refine dg_s (pc' := 1) [.ref x0] rfl (fun _ => rfl) rfl ?_
  refine dw_b (fun t => Φ t) (pc' := 4) (fun q1 => [.int q1.1]) (fun q1 => q1.2) rfl (fun _ => rfl) (fun q1 => ?_)
  refine dw_g rfl ?_
  refine dw_if (fun t => Φ t) (¬ (Int32.toInt q1.1) = 0) [] 10 7 rfl (fun _ => rfl) (fun c0 => ?_) (fun c0 => ?_)
  · refine dw_g rfl ?_
    refine dg_s (pc' := 11) [.ref x0] rfl (fun _ => rfl) rfl ?_
    refine dw_b (fun t => Φ t) (pc' := 14) (fun q2 => []) (fun q2 => q2) rfl (fun _ => rfl) (fun q2 => ?_)
    refine dw_g rfl ?_
    refine dg_s (pc' := 15) [.ref x0] rfl (fun _ => rfl) rfl ?_
    refine dg_s (pc' := 18) [.int (q2.1 x0 40)] rfl (fun _ => rfl) rfl ?_
    refine dw_if (fun t => Φ t) ((Int32.toInt (q2.1 x0 40)) ≤ 0) [] 24 21 rfl (fun _ => rfl) (fun c1 => ?_) (fun c1 => ?_)
    · refine dw_g rfl ?_
      refine dg_s (pc' := 25) [.int (0 : Int32)] rfl (fun _ => rfl) rfl ?_
      refine dg_L (pc' := 26) [(1, .int (0 : Int32)), (0, .ref x0)] [] rfl (fun _ => rfl) rfl ?_
      refine dg_s (pc' := 27) [.int (0 : Int32)] rfl (fun _ => rfl) rfl ?_
      refine dw_L (pc' := 28) [(2, .int (0 : Int32)), (1, .int (0 : Int32)), (0, .ref x0)] [] rfl (fun _ => rfl) ?_
      exact dw_j rfl (fun lv1 hv => k_X10_cost_l28 (Φ := (fun t => Φ t)) x0 (fun _a _b => kR _a _b) N  (0 : Int32) (0 : Int32) q2 lv1 (hv.1 _ rfl) (hv.2.1 _ rfl) (hv.2.2.1 _ rfl))
    · refine dw_g rfl ?_
      refine dg_s (pc' := 23) [.int (-2 : Int32)] rfl (fun _ => rfl) rfl ?_
      exact dw_r (some (.inl (some (.int (-2 : Int32)), q2))) rfl (fun _ => rfl) (kR _ _)
  · refine dw_g rfl ?_
    refine dg_s (pc' := 9) [.int (-2 : Int32)] rfl (fun _ => rfl) rfl ?_
    exact dw_r (some (.inl (some (.int (-2 : Int32)), q1.2))) rfl (fun _ => rfl) (kR _ _)
noncomputable def H_X10_cost : dc_H := fun As m k => match As with
  | [.ref x0] => (d_X10_cost x0 m).bind (fun q => k (some (.int q.1)) q.2)
  | _ => dc_kz
theorem H_X10_cost_ok {u : Nat} : dc_cok u 202 H_X10_cost := fun M' hG N As m k P hz hP => by
  obtain rfl : ab_M_X10_cost = M' := Option.some.inj hG
  unfold H_X10_cost at hP
  split at hP
  · rename_i x0
    exact dc_pv.imp (k_X10_cost (Φ := fun (t : Option (Int32 × dc_M)) r m' => P (t.bind (fun q => k (some (.int q.1)) q.2)) → P (k r m')) x0 m (fun _ _ h => h) rfl) (fun r m' h => h hP)
  · exact absurd hP hz
