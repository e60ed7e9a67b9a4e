/-! ===== methods as functions (written by a program) ===== -/
def C_X10_addCure : List (Nat × dc_H) := [(204, H_X10_addEvent)]
theorem CO_X10_addCure {u : Nat} : dc_CO u C_X10_addCure := dc_CO_cons H_X10_addEvent_ok (dc_CO_nil)
def S_X10_addCure : List (Nat × List Nat) := [(6, [0, 1, 2, 3, 4]), (17, [0, 1, 2, 3, 4, 5, 6]), (56, [0, 1, 2, 3, 4, 5]), (74, [0, 1, 2, 3])]
noncomputable def d_X10_addCure_b74 (x0 : Nat) (x1 : Int32) (x2 : Int32) (x3 : Int32) (m : dc_M) : Option dc_M :=
  (dc_let (d_X10_addEvent x0 x1 (1 : Int32) (dc_wi (dc_wi m (x0 + 1) (Int32.toNatClampNeg (m.1 x0 0)) x3) (x0 + 2) (Int32.toNatClampNeg ((dc_wi m (x0 + 1) (Int32.toNatClampNeg (m.1 x0 0)) x3).1 x0 0)) (2 : Int32))) (fun q1 => (dc_let (d_X10_addEvent x0 x2 (0 : Int32) q1) (fun q2 => some ((dc_wi q2 x0 0 ((q2.1 x0 0) + (1 : Int32))))))))
set_option maxHeartbeats 8000000 in
theorem k_X10_addCure_b74 {u : Nat} {N : Nat} {Φ : (Option dc_M) → Option Value → dc_M → Prop} (x0 : Nat) (x1 : Int32) (x2 : Int32) (x3 : Int32) (m : dc_M) (kR : ∀  (m : dc_M), Φ (some (m)) (none) m)  {lv : ab_L} (f0 : ab_lk lv 0 = some (.ref x0)) (f1 : ab_lk lv 1 = some (.int x1)) (f2 : ab_lk lv 2 = some (.int x2)) (f3 : ab_lk lv 3 = some (.int x3)) : dc_pv u N ab_M_X10_addCure 74 lv [] m (Φ (d_X10_addCure_b74 x0 x1 x2 x3 m)) := by
  refine dc_pv.mono (dc_ok (C := C_X10_addCure) (S := S_X10_addCure) CO_X10_addCure 400 74 [(0, .ref x0), (1, .int x1), (2, .int x2), (3, .int x3)] lv [] m (dc_sub_cons f0 (dc_sub_cons f1 (dc_sub_cons f2 (dc_sub_cons f3 (dc_sub_nil))))) ?_) (Nat.le_succ N)
  unfold d_X10_addCure_b74
  refine dg_s (pc' := 75) [.ref x0] rfl (fun _ => rfl) rfl ?_
  refine dg_s (pc' := 78) [.ref (x0 + 1)] rfl (fun _ => rfl) rfl ?_
  refine dg_s (pc' := 79) [.ref x0, .ref (x0 + 1)] rfl (fun _ => rfl) rfl ?_
  refine dg_s (pc' := 82) [.int (m.1 x0 0), .ref (x0 + 1)] rfl (fun _ => rfl) rfl ?_
  refine dg_s (pc' := 83) [.int x3, .int (m.1 x0 0), .ref (x0 + 1)] rfl (fun _ => rfl) rfl ?_
  refine dg_m (pc' := 84) (dc_wi m (x0 + 1) (Int32.toNatClampNeg (m.1 x0 0)) x3) [] rfl (fun _ => rfl) rfl ?_
  refine dg_s (pc' := 85) [.ref x0] rfl (fun _ => rfl) rfl ?_
  refine dg_s (pc' := 88) [.ref (x0 + 2)] rfl (fun _ => rfl) rfl ?_
  refine dg_s (pc' := 89) [.ref x0, .ref (x0 + 2)] rfl (fun _ => rfl) rfl ?_
  refine dg_s (pc' := 92) [.int ((dc_wi m (x0 + 1) (Int32.toNatClampNeg (m.1 x0 0)) x3).1 x0 0), .ref (x0 + 2)] rfl (fun _ => rfl) rfl ?_
  refine dg_s (pc' := 93) [.int (2 : Int32), .int ((dc_wi m (x0 + 1) (Int32.toNatClampNeg (m.1 x0 0)) x3).1 x0 0), .ref (x0 + 2)] rfl (fun _ => rfl) rfl ?_
  refine dg_m (pc' := 94) (dc_wi (dc_wi m (x0 + 1) (Int32.toNatClampNeg (m.1 x0 0)) x3) (x0 + 2) (Int32.toNatClampNeg ((dc_wi m (x0 + 1) (Int32.toNatClampNeg (m.1 x0 0)) x3).1 x0 0)) (2 : Int32)) [] rfl (fun _ => rfl) rfl ?_
  refine dg_s (pc' := 95) [.ref x0] rfl (fun _ => rfl) rfl ?_
  refine dg_s (pc' := 96) [.int x1, .ref x0] rfl (fun _ => rfl) rfl ?_
  refine dg_s (pc' := 97) [.int (1 : Int32), .int x1, .ref x0] rfl (fun _ => rfl) rfl ?_
  refine dw_l (fun t => Φ t) (pc' := 100) (fun q1 => []) (fun q1 => q1) rfl (fun _ => rfl) (fun q1 => ?_)
  refine dw_g rfl ?_
  refine dg_s (pc' := 101) [.ref x0] rfl (fun _ => rfl) rfl ?_
  refine dg_s (pc' := 102) [.int x2, .ref x0] rfl (fun _ => rfl) rfl ?_
  refine dg_s (pc' := 103) [.int (0 : Int32), .int x2, .ref x0] rfl (fun _ => rfl) rfl ?_
  refine dw_l (fun t => Φ t) (pc' := 106) (fun q2 => []) (fun q2 => q2) rfl (fun _ => rfl) (fun q2 => ?_)
  refine dw_g rfl ?_
  refine dg_s (pc' := 107) [.ref x0] rfl (fun _ => rfl) rfl ?_
  refine dg_s (pc' := 108) [.ref x0, .ref x0] rfl (fun _ => rfl) rfl ?_
  refine dg_s (pc' := 111) [.int (q2.1 x0 0), .ref x0] rfl (fun _ => rfl) rfl ?_
  refine dg_s (pc' := 112) [.int (1 : Int32), .int (q2.1 x0 0), .ref x0] rfl (fun _ => rfl) rfl ?_
  refine dg_s (pc' := 113) [.int ((q2.1 x0 0) + (1 : Int32)), .ref x0] rfl (fun _ => rfl) rfl ?_
  refine dg_m (pc' := 116) (dc_wi q2 x0 0 ((q2.1 x0 0) + (1 : Int32))) [] rfl (fun _ => rfl) rfl ?_
  exact dw_r (some (.inl (none, (dc_wi q2 x0 0 ((q2.1 x0 0) + (1 : Int32)))))) rfl (fun _ => rfl) (kR _)
noncomputable def d_X10_addCure_b56 (x0 : Nat) (x1 : Int32) (x2 : Int32) (x3 : Int32) (x4 : Int32) (x5 : Int32) (m : dc_M) : Option ((Int32 × Int32) ⊕ dc_M) :=
  (if (Int32.toInt x5) = 0 then some (Sum.inl (x3, (x4 + (-1)))) else some (Sum.inl (x4, (x4 + (-1)))))
set_option maxHeartbeats 8000000 in
theorem k_X10_addCure_b56 {u : Nat} {N : Nat} {Φ : (Option ((Int32 × Int32) ⊕ dc_M)) → Option Value → dc_M → Prop} (x0 : Nat) (x1 : Int32) (x2 : Int32) (x3 : Int32) (x4 : Int32) (x5 : Int32) (m : dc_M) (kR : ∀  (m : dc_M), Φ (some (Sum.inr (m))) (none) m) (k6 : ∀ (x3 : Int32) (x4 : Int32) (lv : ab_L), ab_lk lv 0 = some (.ref x0) → ab_lk lv 1 = some (.int x1) → ab_lk lv 2 = some (.int x2) → ab_lk lv 3 = some (.int x3) → ab_lk lv 4 = some (.int x4) →  dc_pv u N ab_M_X10_addCure 6 lv [] m (Φ (some (Sum.inl (x3, x4))))) {lv : ab_L} (f0 : ab_lk lv 0 = some (.ref x0)) (f1 : ab_lk lv 1 = some (.int x1)) (f2 : ab_lk lv 2 = some (.int x2)) (f3 : ab_lk lv 3 = some (.int x3)) (f4 : ab_lk lv 4 = some (.int x4)) (f5 : ab_lk lv 5 = some (.int x5)) : dc_pv u N ab_M_X10_addCure 56 lv [] m (Φ (d_X10_addCure_b56 x0 x1 x2 x3 x4 x5 m)) := by
  refine dc_pv.mono (dc_ok (C := C_X10_addCure) (S := S_X10_addCure) CO_X10_addCure 400 56 [(0, .ref x0), (1, .int x1), (2, .int x2), (3, .int x3), (4, .int x4), (5, .int x5)] lv [] m (dc_sub_cons f0 (dc_sub_cons f1 (dc_sub_cons f2 (dc_sub_cons f3 (dc_sub_cons f4 (dc_sub_cons f5 (dc_sub_nil))))))) ?_) (Nat.le_succ N)
  unfold d_X10_addCure_b56
  refine dg_s (pc' := 58) [.int x5] rfl (fun _ => rfl) rfl ?_
  refine dw_if (fun t => Φ t) ((Int32.toInt x5) = 0) [] 66 61 rfl (fun _ => rfl) (fun c0 => ?_) (fun c0 => ?_)
  · refine dw_g rfl ?_
    refine dg_s (pc' := 67) [.int x3] rfl (fun _ => rfl) rfl ?_
    refine dg_L (pc' := 68) [(3, .int x3), (0, .ref x0), (1, .int x1), (2, .int x2), (4, .int x4), (5, .int x5)] [] rfl (fun _ => rfl) rfl ?_
    refine dg_L (pc' := 71) [(4, .int (x4 + (-1))), (3, .int x3), (0, .ref x0), (1, .int x1), (2, .int x2), (5, .int x5)] [] rfl (fun _ => rfl) rfl ?_
    refine dw_s (pc' := 6) [] rfl (fun _ => rfl) ?_
    exact dw_j rfl (fun lv1 hv => k6 x3 (x4 + (-1)) lv1 (hv.1 _ rfl) (hv.2.1 _ rfl) (hv.2.2.1 _ rfl) (hv.2.2.2.1 _ rfl) (hv.2.2.2.2.1 _ rfl))
  · refine dw_g rfl ?_
    refine dg_s (pc' := 63) [.int x4] rfl (fun _ => rfl) rfl ?_
    refine dg_s (pc' := 67) [.int x4] rfl (fun _ => rfl) rfl ?_
    refine dg_L (pc' := 68) [(3, .int x4), (0, .ref x0), (1, .int x1), (2, .int x2), (4, .int x4), (5, .int x5)] [] rfl (fun _ => rfl) rfl ?_
    refine dg_L (pc' := 71) [(4, .int (x4 + (-1))), (3, .int x4), (0, .ref x0), (1, .int x1), (2, .int x2), (5, .int x5)] [] rfl (fun _ => rfl) rfl ?_
    refine dw_s (pc' := 6) [] rfl (fun _ => rfl) ?_
    exact dw_j rfl (fun lv1 hv => k6 x4 (x4 + (-1)) lv1 (hv.1 _ rfl) (hv.2.1 _ rfl) (hv.2.2.1 _ rfl) (hv.2.2.2.1 _ rfl) (hv.2.2.2.2.1 _ rfl))
noncomputable def d_X10_addCure_l17b (x0 : Nat) (x1 : Int32) (x2 : Int32) (x3 : Int32) (x4 : Int32) (x5 : Int32) (x6 : Int32) (m : dc_M) : Option ((Int32 × Int32) ⊕ ((Int32 × Int32) ⊕ dc_M)) :=
  (if (Int32.toInt (m.1 x0 0)) ≤ (Int32.toInt x6) then ((d_X10_addCure_b56 x0 x1 x2 x3 x4 x5 m).map (fun z => Sum.inr (z))) else (if (Int32.toInt x5) = 0 then some (Sum.inl ((0 : Int32), (x6 + (1 : Int32)))) else (if (Int32.toInt (m.1 (x0 + 1) (Int32.toNatClampNeg x6))) = (Int32.toInt x4) then some (Sum.inl ((0 : Int32), (x6 + (1 : Int32)))) else some (Sum.inl ((1 : Int32), (x6 + (1 : Int32)))))))
noncomputable def d_X10_addCure_l17s (x0 : Nat) (x1 : Int32) (x2 : Int32) (x3 : Int32) (x4 : Int32) (m : dc_M) : (Int32 × Int32) → Option ((Int32 × Int32) ⊕ ((Int32 × Int32) ⊕ dc_M)) := fun s => d_X10_addCure_l17b x0 x1 x2 x3 x4 s.1 s.2 m
noncomputable def d_X10_addCure_l17 (x0 : Nat) (x1 : Int32) (x2 : Int32) (x3 : Int32) (x4 : Int32) (x5 : Int32) (x6 : Int32) (m : dc_M) : Option ((Int32 × Int32) ⊕ dc_M) := dc_lp (d_X10_addCure_l17s x0 x1 x2 x3 x4 m) (x5, x6)
set_option maxHeartbeats 8000000 in
theorem k_X10_addCure_l17 {u : Nat} {Φ : (Option ((Int32 × Int32) ⊕ dc_M)) → Option Value → dc_M → Prop} (x0 : Nat) (x1 : Int32) (x2 : Int32) (x3 : Int32) (x4 : Int32) (m : dc_M) (kR : ∀  (m : dc_M), Φ (some (Sum.inr (m))) (none) m) : ∀ (N : Nat), (∀ (x3 : Int32) (x4 : Int32) (lv : ab_L), ab_lk lv 0 = some (.ref x0) → ab_lk lv 1 = some (.int x1) → ab_lk lv 2 = some (.int x2) → ab_lk lv 3 = some (.int x3) → ab_lk lv 4 = some (.int x4) →  dc_pv u N ab_M_X10_addCure 6 lv [] m (Φ (some (Sum.inl (x3, x4))))) → ∀ (x5 : Int32) (x6 : Int32) (lv : ab_L), ab_lk lv 0 = some (.ref x0) → ab_lk lv 1 = some (.int x1) → ab_lk lv 2 = some (.int x2) → ab_lk lv 3 = some (.int x3) → ab_lk lv 4 = some (.int x4) → ab_lk lv 5 = some (.int x5) → ab_lk lv 6 = some (.int x6) → dc_pv u N ab_M_X10_addCure 17 lv [] m (Φ (d_X10_addCure_l17 x0 x1 x2 x3 x4 x5 x6 m)) := by
  intro N
  induction N with
  | zero => intros; exact dc_pv_zero
  | succ N ih =>
    intro k6 x5 x6 lv f0 f1 f2 f3 f4 f5 f6
    have k6 := fun a0 a1 a2 a3 a4 a5 a6 a7 => (k6 a0 a1 a2 a3 a4 a5 a6 a7).mono (Nat.le_succ N)
    have ih := ih k6
    refine dc_ok (C := C_X10_addCure) (S := S_X10_addCure) CO_X10_addCure 400 17 [(0, .ref x0), (1, .int x1), (2, .int x2), (3, .int x3), (4, .int x4), (5, .int x5), (6, .int x6)] lv [] m (dc_sub_cons f0 (dc_sub_cons f1 (dc_sub_cons f2 (dc_sub_cons f3 (dc_sub_cons f4 (dc_sub_cons f5 (dc_sub_cons f6 (dc_sub_nil)))))))) ?_
    unfold d_X10_addCure_l17
    rw [dc_lp_eq]
    show (fun t x => dc_lf u N ab_M_X10_addCure (Φ (Option.bind t (dc_bk (d_X10_addCure_l17s x0 x1 x2 x3 x4 m)))) x) (d_X10_addCure_l17b x0 x1 x2 x3 x4 x5 x6 m) _
    dsimp only
    unfold d_X10_addCure_l17b
    refine dg_s (pc' := 19) [.int x6] rfl (fun _ => rfl) rfl ?_
    refine dg_s (pc' := 20) [.ref x0, .int x6] rfl (fun _ => rfl) rfl ?_
    refine dg_s (pc' := 23) [.int (m.1 x0 0), .int x6] rfl (fun _ => rfl) rfl ?_
    refine dw_if (fun t => Φ (Option.bind t (dc_bk (d_X10_addCure_l17s x0 x1 x2 x3 x4 m)))) ((Int32.toInt (m.1 x0 0)) ≤ (Int32.toInt x6)) [] 56 26 rfl (fun _ => rfl) (fun c0 => ?_) (fun c0 => ?_)
    · exact dw_j rfl (fun lv1 hv => k_X10_addCure_b56 (Φ := (fun t => Φ (Option.bind (t.map (fun z => Sum.inr (z))) (dc_bk (d_X10_addCure_l17s x0 x1 x2 x3 x4 m))))) x0 x1 x2 x3 x4 x5 m (fun _b => kR _b) k6 (hv.1 _ rfl) (hv.2.1 _ rfl) (hv.2.2.1 _ rfl) (hv.2.2.2.1 _ rfl) (hv.2.2.2.2.1 _ rfl) (hv.2.2.2.2.2.1 _ rfl))
    · refine dw_g rfl ?_
      refine dg_s (pc' := 28) [.int x5] rfl (fun _ => rfl) rfl ?_
      refine dw_if (fun t => Φ (Option.bind t (dc_bk (d_X10_addCure_l17s x0 x1 x2 x3 x4 m)))) ((Int32.toInt x5) = 0) [] 47 31 rfl (fun _ => rfl) (fun c1 => ?_) (fun c1 => ?_)
      · refine dw_g rfl ?_
        refine dg_s (pc' := 48) [.int (0 : Int32)] rfl (fun _ => rfl) rfl ?_
        refine dg_L (pc' := 50) [(5, .int (0 : Int32)), (0, .ref x0), (1, .int x1), (2, .int x2), (3, .int x3), (4, .int x4), (6, .int x6)] [] rfl (fun _ => rfl) rfl ?_
        refine dg_L (pc' := 53) [(6, .int (x6 + (1 : Int32))), (5, .int (0 : Int32)), (0, .ref x0), (1, .int x1), (2, .int x2), (3, .int x3), (4, .int x4)] [] rfl (fun _ => rfl) rfl ?_
        refine dw_s (pc' := 17) [] rfl (fun _ => rfl) ?_
        exact dw_j rfl (fun lv1 hv => ih (0 : Int32) (x6 + (1 : Int32)) lv1 (hv.1 _ rfl) (hv.2.1 _ rfl) (hv.2.2.1 _ rfl) (hv.2.2.2.1 _ rfl) (hv.2.2.2.2.1 _ rfl) (hv.2.2.2.2.2.1 _ rfl) (hv.2.2.2.2.2.2.1 _ rfl))
      · refine dw_g rfl ?_
        refine dg_s (pc' := 32) [.ref x0] rfl (fun _ => rfl) rfl ?_
        refine dg_s (pc' := 35) [.ref (x0 + 1)] rfl (fun _ => rfl) rfl ?_
        refine dg_s (pc' := 37) [.int x6, .ref (x0 + 1)] rfl (fun _ => rfl) rfl ?_
        refine dg_s (pc' := 38) [.int (m.1 (x0 + 1) (Int32.toNatClampNeg x6))] rfl (fun _ => rfl) rfl ?_
        refine dg_s (pc' := 40) [.int x4, .int (m.1 (x0 + 1) (Int32.toNatClampNeg x6))] rfl (fun _ => rfl) rfl ?_
        refine dw_if (fun t => Φ (Option.bind t (dc_bk (d_X10_addCure_l17s x0 x1 x2 x3 x4 m)))) ((Int32.toInt (m.1 (x0 + 1) (Int32.toNatClampNeg x6))) = (Int32.toInt x4)) [] 47 43 rfl (fun _ => rfl) (fun c2 => ?_) (fun c2 => ?_)
        · refine dw_g rfl ?_
          refine dg_s (pc' := 48) [.int (0 : Int32)] rfl (fun _ => rfl) rfl ?_
          refine dg_L (pc' := 50) [(5, .int (0 : Int32)), (0, .ref x0), (1, .int x1), (2, .int x2), (3, .int x3), (4, .int x4), (6, .int x6)] [] rfl (fun _ => rfl) rfl ?_
          refine dg_L (pc' := 53) [(6, .int (x6 + (1 : Int32))), (5, .int (0 : Int32)), (0, .ref x0), (1, .int x1), (2, .int x2), (3, .int x3), (4, .int x4)] [] rfl (fun _ => rfl) rfl ?_
          refine dw_s (pc' := 17) [] rfl (fun _ => rfl) ?_
          exact dw_j rfl (fun lv1 hv => ih (0 : Int32) (x6 + (1 : Int32)) lv1 (hv.1 _ rfl) (hv.2.1 _ rfl) (hv.2.2.1 _ rfl) (hv.2.2.2.1 _ rfl) (hv.2.2.2.2.1 _ rfl) (hv.2.2.2.2.2.1 _ rfl) (hv.2.2.2.2.2.2.1 _ rfl))
        · refine dw_g rfl ?_
          refine dg_s (pc' := 44) [.int (1 : Int32)] rfl (fun _ => rfl) rfl ?_
          refine dg_s (pc' := 48) [.int (1 : Int32)] rfl (fun _ => rfl) rfl ?_
          refine dg_L (pc' := 50) [(5, .int (1 : Int32)), (0, .ref x0), (1, .int x1), (2, .int x2), (3, .int x3), (4, .int x4), (6, .int x6)] [] rfl (fun _ => rfl) rfl ?_
          refine dg_L (pc' := 53) [(6, .int (x6 + (1 : Int32))), (5, .int (1 : Int32)), (0, .ref x0), (1, .int x1), (2, .int x2), (3, .int x3), (4, .int x4)] [] rfl (fun _ => rfl) rfl ?_
          refine dw_s (pc' := 17) [] rfl (fun _ => rfl) ?_
          exact dw_j rfl (fun lv1 hv => ih (1 : Int32) (x6 + (1 : Int32)) lv1 (hv.1 _ rfl) (hv.2.1 _ rfl) (hv.2.2.1 _ rfl) (hv.2.2.2.1 _ rfl) (hv.2.2.2.2.1 _ rfl) (hv.2.2.2.2.2.1 _ rfl) (hv.2.2.2.2.2.2.1 _ rfl))
noncomputable def d_X10_addCure_l6b (x0 : Nat) (x1 : Int32) (x2 : Int32) (x3 : Int32) (x4 : Int32) (m : dc_M) : Option ((Int32 × Int32) ⊕ dc_M) :=
  (if (Int32.toInt x4) < 0 then ((d_X10_addCure_b74 x0 x1 x2 x3 m).map (fun z => Sum.inr (z))) else (d_X10_addCure_l17 x0 x1 x2 x3 x4 (1 : Int32) (0 : Int32) m))
noncomputable def d_X10_addCure_l6s (x0 : Nat) (x1 : Int32) (x2 : Int32) (m : dc_M) : (Int32 × Int32) → Option ((Int32 × Int32) ⊕ dc_M) := fun s => d_X10_addCure_l6b x0 x1 x2 s.1 s.2 m
noncomputable def d_X10_addCure_l6 (x0 : Nat) (x1 : Int32) (x2 : Int32) (x3 : Int32) (x4 : Int32) (m : dc_M) : Option dc_M := dc_lp (d_X10_addCure_l6s x0 x1 x2 m) (x3, x4)
set_option maxHeartbeats 8000000 in
theorem k_X10_addCure_l6 {u : Nat} {Φ : (Option dc_M) → Option Value → dc_M → Prop} (x0 : Nat) (x1 : Int32) (x2 : Int32) (m : dc_M) (kR : ∀  (m : dc_M), Φ (some (m)) (none) m) : ∀ (N : Nat), ∀ (x3 : Int32) (x4 : Int32) (lv : ab_L), ab_lk lv 0 = some (.ref x0) → ab_lk lv 1 = some (.int x1) → ab_lk lv 2 = some (.int x2) → ab_lk lv 3 = some (.int x3) → ab_lk lv 4 = some (.int x4) → dc_pv u N ab_M_X10_addCure 6 lv [] m (Φ (d_X10_addCure_l6 x0 x1 x2 x3 x4 m)) := by
  intro N
  induction N with
  | zero => intros; exact dc_pv_zero
  | succ N ih =>
    intro x3 x4 lv f0 f1 f2 f3 f4
    refine dc_ok (C := C_X10_addCure) (S := S_X10_addCure) CO_X10_addCure 400 6 [(0, .ref x0), (1, .int x1), (2, .int x2), (3, .int x3), (4, .int x4)] lv [] m (dc_sub_cons f0 (dc_sub_cons f1 (dc_sub_cons f2 (dc_sub_cons f3 (dc_sub_cons f4 (dc_sub_nil)))))) ?_
    unfold d_X10_addCure_l6
    rw [dc_lp_eq]
    show (fun t x => dc_lf u N ab_M_X10_addCure (Φ (Option.bind t (dc_bk (d_X10_addCure_l6s x0 x1 x2 m)))) x) (d_X10_addCure_l6b x0 x1 x2 x3 x4 m) _
    dsimp only
    unfold d_X10_addCure_l6b
    refine dg_s (pc' := 8) [.int x4] rfl (fun _ => rfl) rfl ?_
    refine dw_if (fun t => Φ (Option.bind t (dc_bk (d_X10_addCure_l6s x0 x1 x2 m)))) ((Int32.toInt x4) < 0) [] 74 11 rfl (fun _ => rfl) (fun c0 => ?_) (fun c0 => ?_)
    · exact dw_j rfl (fun lv1 hv => k_X10_addCure_b74 (Φ := (fun t => Φ (Option.bind (t.map (fun z => Sum.inr (z))) (dc_bk (d_X10_addCure_l6s x0 x1 x2 m))))) x0 x1 x2 x3 m (fun _b => kR _b)  (hv.1 _ rfl) (hv.2.1 _ rfl) (hv.2.2.1 _ rfl) (hv.2.2.2.1 _ rfl))
    · refine dw_g rfl ?_
      refine dg_s (pc' := 12) [.int (1 : Int32)] rfl (fun _ => rfl) rfl ?_
      refine dg_L (pc' := 14) [(5, .int (1 : Int32)), (0, .ref x0), (1, .int x1), (2, .int x2), (3, .int x3), (4, .int x4)] [] rfl (fun _ => rfl) rfl ?_
      refine dg_s (pc' := 15) [.int (0 : Int32)] rfl (fun _ => rfl) rfl ?_
      refine dw_L (pc' := 17) [(6, .int (0 : Int32)), (5, .int (1 : Int32)), (0, .ref x0), (1, .int x1), (2, .int x2), (3, .int x3), (4, .int x4)] [] rfl (fun _ => rfl) ?_
      exact dw_j rfl (fun lv1 hv => k_X10_addCure_l17 (Φ := (fun t => Φ (Option.bind t (dc_bk (d_X10_addCure_l6s x0 x1 x2 m))))) x0 x1 x2 x3 x4 m (fun _b => kR _b) N ih (1 : Int32) (0 : Int32) lv1 (hv.1 _ rfl) (hv.2.1 _ rfl) (hv.2.2.1 _ rfl) (hv.2.2.2.1 _ rfl) (hv.2.2.2.2.1 _ rfl) (hv.2.2.2.2.2.1 _ rfl) (hv.2.2.2.2.2.2.1 _ rfl))
noncomputable def d_X10_addCure (x0 : Nat) (x1 : Int32) (x2 : Int32) (m : dc_M) : Option dc_M :=
  (d_X10_addCure_l6 x0 x1 x2 (0 : Int32) (25 : Int32) m)
set_option maxHeartbeats 8000000 in
theorem k_X10_addCure {u : Nat} {N : Nat} {Φ : (Option dc_M) → Option Value → dc_M → Prop} (x0 : Nat) (x1 : Int32) (x2 : Int32) (m : dc_M) (kR : ∀  (m : dc_M), Φ (some (m)) (none) m)  {lv : ab_L} (f0 : ab_lk lv 0 = some (.ref x0)) (f1 : ab_lk lv 1 = some (.int x1)) (f2 : ab_lk lv 2 = some (.int x2)) : dc_pv u N ab_M_X10_addCure 0 lv [] m (Φ (d_X10_addCure x0 x1 x2 m)) := by
  refine dc_pv.mono (dc_ok (C := C_X10_addCure) (S := S_X10_addCure) CO_X10_addCure 400 0 [(0, .ref x0), (1, .int x1), (2, .int x2)] lv [] m (dc_sub_cons f0 (dc_sub_cons f1 (dc_sub_cons f2 (dc_sub_nil)))) ?_) (Nat.le_succ N)
  unfold d_X10_addCure
  refine dg_s (pc' := 1) [.int (0 : Int32)] rfl (fun _ => rfl) rfl ?_
  refine dg_L (pc' := 2) [(3, .int (0 : Int32)), (0, .ref x0), (1, .int x1), (2, .int x2)] [] rfl (fun _ => rfl) rfl ?_
  refine dg_s (pc' := 4) [.int (25 : Int32)] rfl (fun _ => rfl) rfl ?_
  refine dw_L (pc' := 6) [(4, .int (25 : Int32)), (3, .int (0 : Int32)), (0, .ref x0), (1, .int x1), (2, .int x2)] [] rfl (fun _ => rfl) ?_
  exact dw_j rfl (fun lv1 hv => k_X10_addCure_l6 (Φ := (fun t => Φ t)) x0 x1 x2 m (fun _b => kR _b) N  (0 : Int32) (25 : Int32) lv1 (hv.1 _ rfl) (hv.2.1 _ rfl) (hv.2.2.1 _ rfl) (hv.2.2.2.1 _ rfl) (hv.2.2.2.2.1 _ rfl))
noncomputable def H_X10_addCure : dc_H := fun As m k => match As with
  | [.ref x0, .int x1, .int x2] => (d_X10_addCure x0 x1 x2 m).bind (fun q => k (none) q)
  | _ => dc_kz
theorem H_X10_addCure_ok {u : Nat} : dc_cok u 205 H_X10_addCure := fun M' hG N As m k P hz hP => by
  obtain rfl : ab_M_X10_addCure = M' := Option.some.inj hG
  unfold H_X10_addCure at hP
  split at hP
  · rename_i x0 x1 x2
    exact dc_pv.imp (k_X10_addCure (Φ := fun (t : Option dc_M) r m' => P (t.bind (fun q => k (none) q)) → P (k r m')) x0 x1 x2 m (fun _ h => h) rfl rfl rfl) (fun r m' h => h hP)
  · exact absurd hP hz
def C_X10_dropCure : List (Nat × dc_H) := []
theorem CO_X10_dropCure {u : Nat} : dc_CO u C_X10_dropCure := dc_CO_nil
def S_X10_dropCure : List (Nat × List Nat) := []
def d_X10_dropCure (x0 : Nat) (x1 : Int32) (x2 : Int32) (m : dc_M) : dc_M :=
  (dc_wi (dc_wi (dc_wi (dc_wi (dc_wi m (x0 + 7) (Int32.toNatClampNeg x1) (m.1 (x0 + 7) (Int32.toNatClampNeg ((m.1 x0 3) - (2 : Int32))))) (x0 + 7) (Int32.toNatClampNeg x2) ((dc_wi m (x0 + 7) (Int32.toNatClampNeg x1) (m.1 (x0 + 7) (Int32.toNatClampNeg ((m.1 x0 3) - (2 : Int32))))).1 (x0 + 7) (Int32.toNatClampNeg (((dc_wi m (x0 + 7) (Int32.toNatClampNeg x1) (m.1 (x0 + 7) (Int32.toNatClampNeg ((m.1 x0 3) - (2 : Int32))))).1 x0 3) - (1 : Int32))))) x0 3 (((dc_wi (dc_wi m (x0 + 7) (Int32.toNatClampNeg x1) (m.1 (x0 + 7) (Int32.toNatClampNeg ((m.1 x0 3) - (2 : Int32))))) (x0 + 7) (Int32.toNatClampNeg x2) ((dc_wi m (x0 + 7) (Int32.toNatClampNeg x1) (m.1 (x0 + 7) (Int32.toNatClampNeg ((m.1 x0 3) - (2 : Int32))))).1 (x0 + 7) (Int32.toNatClampNeg (((dc_wi m (x0 + 7) (Int32.toNatClampNeg x1) (m.1 (x0 + 7) (Int32.toNatClampNeg ((m.1 x0 3) - (2 : Int32))))).1 x0 3) - (1 : Int32))))).1 x0 3) - (2 : Int32))) x0 10 (((dc_wi (dc_wi (dc_wi m (x0 + 7) (Int32.toNatClampNeg x1) (m.1 (x0 + 7) (Int32.toNatClampNeg ((m.1 x0 3) - (2 : Int32))))) (x0 + 7) (Int32.toNatClampNeg x2) ((dc_wi m (x0 + 7) (Int32.toNatClampNeg x1) (m.1 (x0 + 7) (Int32.toNatClampNeg ((m.1 x0 3) - (2 : Int32))))).1 (x0 + 7) (Int32.toNatClampNeg (((dc_wi m (x0 + 7) (Int32.toNatClampNeg x1) (m.1 (x0 + 7) (Int32.toNatClampNeg ((m.1 x0 3) - (2 : Int32))))).1 x0 3) - (1 : Int32))))) x0 3 (((dc_wi (dc_wi m (x0 + 7) (Int32.toNatClampNeg x1) (m.1 (x0 + 7) (Int32.toNatClampNeg ((m.1 x0 3) - (2 : Int32))))) (x0 + 7) (Int32.toNatClampNeg x2) ((dc_wi m (x0 + 7) (Int32.toNatClampNeg x1) (m.1 (x0 + 7) (Int32.toNatClampNeg ((m.1 x0 3) - (2 : Int32))))).1 (x0 + 7) (Int32.toNatClampNeg (((dc_wi m (x0 + 7) (Int32.toNatClampNeg x1) (m.1 (x0 + 7) (Int32.toNatClampNeg ((m.1 x0 3) - (2 : Int32))))).1 x0 3) - (1 : Int32))))).1 x0 3) - (2 : Int32))).1 x0 10) - (2 : Int32))) x0 0 (((dc_wi (dc_wi (dc_wi (dc_wi m (x0 + 7) (Int32.toNatClampNeg x1) (m.1 (x0 + 7) (Int32.toNatClampNeg ((m.1 x0 3) - (2 : Int32))))) (x0 + 7) (Int32.toNatClampNeg x2) ((dc_wi m (x0 + 7) (Int32.toNatClampNeg x1) (m.1 (x0 + 7) (Int32.toNatClampNeg ((m.1 x0 3) - (2 : Int32))))).1 (x0 + 7) (Int32.toNatClampNeg (((dc_wi m (x0 + 7) (Int32.toNatClampNeg x1) (m.1 (x0 + 7) (Int32.toNatClampNeg ((m.1 x0 3) - (2 : Int32))))).1 x0 3) - (1 : Int32))))) x0 3 (((dc_wi (dc_wi m (x0 + 7) (Int32.toNatClampNeg x1) (m.1 (x0 + 7) (Int32.toNatClampNeg ((m.1 x0 3) - (2 : Int32))))) (x0 + 7) (Int32.toNatClampNeg x2) ((dc_wi m (x0 + 7) (Int32.toNatClampNeg x1) (m.1 (x0 + 7) (Int32.toNatClampNeg ((m.1 x0 3) - (2 : Int32))))).1 (x0 + 7) (Int32.toNatClampNeg (((dc_wi m (x0 + 7) (Int32.toNatClampNeg x1) (m.1 (x0 + 7) (Int32.toNatClampNeg ((m.1 x0 3) - (2 : Int32))))).1 x0 3) - (1 : Int32))))).1 x0 3) - (2 : Int32))) x0 10 (((dc_wi (dc_wi (dc_wi m (x0 + 7) (Int32.toNatClampNeg x1) (m.1 (x0 + 7) (Int32.toNatClampNeg ((m.1 x0 3) - (2 : Int32))))) (x0 + 7) (Int32.toNatClampNeg x2) ((dc_wi m (x0 + 7) (Int32.toNatClampNeg x1) (m.1 (x0 + 7) (Int32.toNatClampNeg ((m.1 x0 3) - (2 : Int32))))).1 (x0 + 7) (Int32.toNatClampNeg (((dc_wi m (x0 + 7) (Int32.toNatClampNeg x1) (m.1 (x0 + 7) (Int32.toNatClampNeg ((m.1 x0 3) - (2 : Int32))))).1 x0 3) - (1 : Int32))))) x0 3 (((dc_wi (dc_wi m (x0 + 7) (Int32.toNatClampNeg x1) (m.1 (x0 + 7) (Int32.toNatClampNeg ((m.1 x0 3) - (2 : Int32))))) (x0 + 7) (Int32.toNatClampNeg x2) ((dc_wi m (x0 + 7) (Int32.toNatClampNeg x1) (m.1 (x0 + 7) (Int32.toNatClampNeg ((m.1 x0 3) - (2 : Int32))))).1 (x0 + 7) (Int32.toNatClampNeg (((dc_wi m (x0 + 7) (Int32.toNatClampNeg x1) (m.1 (x0 + 7) (Int32.toNatClampNeg ((m.1 x0 3) - (2 : Int32))))).1 x0 3) - (1 : Int32))))).1 x0 3) - (2 : Int32))).1 x0 10) - (2 : Int32))).1 x0 0) - (1 : Int32)))
set_option maxHeartbeats 8000000 in
theorem k_X10_dropCure {u : Nat} {N : Nat} {Φ : dc_M → Option Value → dc_M → Prop} (x0 : Nat) (x1 : Int32) (x2 : Int32) (m : dc_M) (kR : ∀  (m : dc_M), Φ (m) (none) m)  {lv : ab_L} (f0 : ab_lk lv 0 = some (.ref x0)) (f1 : ab_lk lv 1 = some (.int x1)) (f2 : ab_lk lv 2 = some (.int x2)) : dc_pv u N ab_M_X10_dropCure 0 lv [] m (Φ (d_X10_dropCure x0 x1 x2 m)) := by
  refine dc_pv.mono (dc_ok (C := C_X10_dropCure) (S := S_X10_dropCure) CO_X10_dropCure 400 0 [(0, .ref x0), (1, .int x1), (2, .int x2)] lv [] m (dc_sub_cons f0 (dc_sub_cons f1 (dc_sub_cons f2 (dc_sub_nil)))) ?_) (Nat.le_succ N)
  unfold d_X10_dropCure
  refine dg_s (pc' := 1) [.ref x0] rfl (fun _ => rfl) rfl ?_
  refine dg_s (pc' := 4) [.ref (x0 + 7)] rfl (fun _ => rfl) rfl ?_
  refine dg_s (pc' := 5) [.int x1, .ref (x0 + 7)] rfl (fun _ => rfl) rfl ?_
  refine dg_s (pc' := 6) [.ref x0, .int x1, .ref (x0 + 7)] rfl (fun _ => rfl) rfl ?_
  refine dg_s (pc' := 9) [.ref (x0 + 7), .int x1, .ref (x0 + 7)] rfl (fun _ => rfl) rfl ?_
  refine dg_s (pc' := 10) [.ref x0, .ref (x0 + 7), .int x1, .ref (x0 + 7)] rfl (fun _ => rfl) rfl ?_
  refine dg_s (pc' := 13) [.int (m.1 x0 3), .ref (x0 + 7), .int x1, .ref (x0 + 7)] rfl (fun _ => rfl) rfl ?_
  refine dg_s (pc' := 14) [.int (2 : Int32), .int (m.1 x0 3), .ref (x0 + 7), .int x1, .ref (x0 + 7)] rfl (fun _ => rfl) rfl ?_
  refine dg_s (pc' := 15) [.int ((m.1 x0 3) - (2 : Int32)), .ref (x0 + 7), .int x1, .ref (x0 + 7)] rfl (fun _ => rfl) rfl ?_
  refine dg_s (pc' := 16) [.int (m.1 (x0 + 7) (Int32.toNatClampNeg ((m.1 x0 3) - (2 : Int32)))), .int x1, .ref (x0 + 7)] rfl (fun _ => rfl) rfl ?_
  refine dg_m (pc' := 17) (dc_wi m (x0 + 7) (Int32.toNatClampNeg x1) (m.1 (x0 + 7) (Int32.toNatClampNeg ((m.1 x0 3) - (2 : Int32))))) [] rfl (fun _ => rfl) rfl ?_
  refine dg_s (pc' := 18) [.ref x0] rfl (fun _ => rfl) rfl ?_
  refine dg_s (pc' := 21) [.ref (x0 + 7)] rfl (fun _ => rfl) rfl ?_
  refine dg_s (pc' := 22) [.int x2, .ref (x0 + 7)] rfl (fun _ => rfl) rfl ?_
  refine dg_s (pc' := 23) [.ref x0, .int x2, .ref (x0 + 7)] rfl (fun _ => rfl) rfl ?_
  refine dg_s (pc' := 26) [.ref (x0 + 7), .int x2, .ref (x0 + 7)] rfl (fun _ => rfl) rfl ?_
  refine dg_s (pc' := 27) [.ref x0, .ref (x0 + 7), .int x2, .ref (x0 + 7)] rfl (fun _ => rfl) rfl ?_
  refine dg_s (pc' := 30) [.int ((dc_wi m (x0 + 7) (Int32.toNatClampNeg x1) (m.1 (x0 + 7) (Int32.toNatClampNeg ((m.1 x0 3) - (2 : Int32))))).1 x0 3), .ref (x0 + 7), .int x2, .ref (x0 + 7)] rfl (fun _ => rfl) rfl ?_
  refine dg_s (pc' := 31) [.int (1 : Int32), .int ((dc_wi m (x0 + 7) (Int32.toNatClampNeg x1) (m.1 (x0 + 7) (Int32.toNatClampNeg ((m.1 x0 3) - (2 : Int32))))).1 x0 3), .ref (x0 + 7), .int x2, .ref (x0 + 7)] rfl (fun _ => rfl) rfl ?_
  refine dg_s (pc' := 32) [.int (((dc_wi m (x0 + 7) (Int32.toNatClampNeg x1) (m.1 (x0 + 7) (Int32.toNatClampNeg ((m.1 x0 3) - (2 : Int32))))).1 x0 3) - (1 : Int32)), .ref (x0 + 7), .int x2, .ref (x0 + 7)] rfl (fun _ => rfl) rfl ?_
  refine dg_s (pc' := 33) [.int ((dc_wi m (x0 + 7) (Int32.toNatClampNeg x1) (m.1 (x0 + 7) (Int32.toNatClampNeg ((m.1 x0 3) - (2 : Int32))))).1 (x0 + 7) (Int32.toNatClampNeg (((dc_wi m (x0 + 7) (Int32.toNatClampNeg x1) (m.1 (x0 + 7) (Int32.toNatClampNeg ((m.1 x0 3) - (2 : Int32))))).1 x0 3) - (1 : Int32)))), .int x2, .ref (x0 + 7)] rfl (fun _ => rfl) rfl ?_
  refine dg_m (pc' := 34) (dc_wi (dc_wi m (x0 + 7) (Int32.toNatClampNeg x1) (m.1 (x0 + 7) (Int32.toNatClampNeg ((m.1 x0 3) - (2 : Int32))))) (x0 + 7) (Int32.toNatClampNeg x2) ((dc_wi m (x0 + 7) (Int32.toNatClampNeg x1) (m.1 (x0 + 7) (Int32.toNatClampNeg ((m.1 x0 3) - (2 : Int32))))).1 (x0 + 7) (Int32.toNatClampNeg (((dc_wi m (x0 + 7) (Int32.toNatClampNeg x1) (m.1 (x0 + 7) (Int32.toNatClampNeg ((m.1 x0 3) - (2 : Int32))))).1 x0 3) - (1 : Int32))))) [] rfl (fun _ => rfl) rfl ?_
  refine dg_s (pc' := 35) [.ref x0] rfl (fun _ => rfl) rfl ?_
  refine dg_s (pc' := 36) [.ref x0, .ref x0] rfl (fun _ => rfl) rfl ?_
  refine dg_s (pc' := 39) [.int ((dc_wi (dc_wi m (x0 + 7) (Int32.toNatClampNeg x1) (m.1 (x0 + 7) (Int32.toNatClampNeg ((m.1 x0 3) - (2 : Int32))))) (x0 + 7) (Int32.toNatClampNeg x2) ((dc_wi m (x0 + 7) (Int32.toNatClampNeg x1) (m.1 (x0 + 7) (Int32.toNatClampNeg ((m.1 x0 3) - (2 : Int32))))).1 (x0 + 7) (Int32.toNatClampNeg (((dc_wi m (x0 + 7) (Int32.toNatClampNeg x1) (m.1 (x0 + 7) (Int32.toNatClampNeg ((m.1 x0 3) - (2 : Int32))))).1 x0 3) - (1 : Int32))))).1 x0 3), .ref x0] rfl (fun _ => rfl) rfl ?_
  refine dg_s (pc' := 40) [.int (2 : Int32), .int ((dc_wi (dc_wi m (x0 + 7) (Int32.toNatClampNeg x1) (m.1 (x0 + 7) (Int32.toNatClampNeg ((m.1 x0 3) - (2 : Int32))))) (x0 + 7) (Int32.toNatClampNeg x2) ((dc_wi m (x0 + 7) (Int32.toNatClampNeg x1) (m.1 (x0 + 7) (Int32.toNatClampNeg ((m.1 x0 3) - (2 : Int32))))).1 (x0 + 7) (Int32.toNatClampNeg (((dc_wi m (x0 + 7) (Int32.toNatClampNeg x1) (m.1 (x0 + 7) (Int32.toNatClampNeg ((m.1 x0 3) - (2 : Int32))))).1 x0 3) - (1 : Int32))))).1 x0 3), .ref x0] rfl (fun _ => rfl) rfl ?_
  refine dg_s (pc' := 41) [.int (((dc_wi (dc_wi m (x0 + 7) (Int32.toNatClampNeg x1) (m.1 (x0 + 7) (Int32.toNatClampNeg ((m.1 x0 3) - (2 : Int32))))) (x0 + 7) (Int32.toNatClampNeg x2) ((dc_wi m (x0 + 7) (Int32.toNatClampNeg x1) (m.1 (x0 + 7) (Int32.toNatClampNeg ((m.1 x0 3) - (2 : Int32))))).1 (x0 + 7) (Int32.toNatClampNeg (((dc_wi m (x0 + 7) (Int32.toNatClampNeg x1) (m.1 (x0 + 7) (Int32.toNatClampNeg ((m.1 x0 3) - (2 : Int32))))).1 x0 3) - (1 : Int32))))).1 x0 3) - (2 : Int32)), .ref x0] rfl (fun _ => rfl) rfl ?_
  refine dg_m (pc' := 44) (dc_wi (dc_wi (dc_wi m (x0 + 7) (Int32.toNatClampNeg x1) (m.1 (x0 + 7) (Int32.toNatClampNeg ((m.1 x0 3) - (2 : Int32))))) (x0 + 7) (Int32.toNatClampNeg x2) ((dc_wi m (x0 + 7) (Int32.toNatClampNeg x1) (m.1 (x0 + 7) (Int32.toNatClampNeg ((m.1 x0 3) - (2 : Int32))))).1 (x0 + 7) (Int32.toNatClampNeg (((dc_wi m (x0 + 7) (Int32.toNatClampNeg x1) (m.1 (x0 + 7) (Int32.toNatClampNeg ((m.1 x0 3) - (2 : Int32))))).1 x0 3) - (1 : Int32))))) x0 3 (((dc_wi (dc_wi m (x0 + 7) (Int32.toNatClampNeg x1) (m.1 (x0 + 7) (Int32.toNatClampNeg ((m.1 x0 3) - (2 : Int32))))) (x0 + 7) (Int32.toNatClampNeg x2) ((dc_wi m (x0 + 7) (Int32.toNatClampNeg x1) (m.1 (x0 + 7) (Int32.toNatClampNeg ((m.1 x0 3) - (2 : Int32))))).1 (x0 + 7) (Int32.toNatClampNeg (((dc_wi m (x0 + 7) (Int32.toNatClampNeg x1) (m.1 (x0 + 7) (Int32.toNatClampNeg ((m.1 x0 3) - (2 : Int32))))).1 x0 3) - (1 : Int32))))).1 x0 3) - (2 : Int32))) [] rfl (fun _ => rfl) rfl ?_
  refine dg_s (pc' := 45) [.ref x0] rfl (fun _ => rfl) rfl ?_
  refine dg_s (pc' := 46) [.ref x0, .ref x0] rfl (fun _ => rfl) rfl ?_
  refine dg_s (pc' := 49) [.int ((dc_wi (dc_wi (dc_wi m (x0 + 7) (Int32.toNatClampNeg x1) (m.1 (x0 + 7) (Int32.toNatClampNeg ((m.1 x0 3) - (2 : Int32))))) (x0 + 7) (Int32.toNatClampNeg x2) ((dc_wi m (x0 + 7) (Int32.toNatClampNeg x1) (m.1 (x0 + 7) (Int32.toNatClampNeg ((m.1 x0 3) - (2 : Int32))))).1 (x0 + 7) (Int32.toNatClampNeg (((dc_wi m (x0 + 7) (Int32.toNatClampNeg x1) (m.1 (x0 + 7) (Int32.toNatClampNeg ((m.1 x0 3) - (2 : Int32))))).1 x0 3) - (1 : Int32))))) x0 3 (((dc_wi (dc_wi m (x0 + 7) (Int32.toNatClampNeg x1) (m.1 (x0 + 7) (Int32.toNatClampNeg ((m.1 x0 3) - (2 : Int32))))) (x0 + 7) (Int32.toNatClampNeg x2) ((dc_wi m (x0 + 7) (Int32.toNatClampNeg x1) (m.1 (x0 + 7) (Int32.toNatClampNeg ((m.1 x0 3) - (2 : Int32))))).1 (x0 + 7) (Int32.toNatClampNeg (((dc_wi m (x0 + 7) (Int32.toNatClampNeg x1) (m.1 (x0 + 7) (Int32.toNatClampNeg ((m.1 x0 3) - (2 : Int32))))).1 x0 3) - (1 : Int32))))).1 x0 3) - (2 : Int32))).1 x0 10), .ref x0] rfl (fun _ => rfl) rfl ?_
  refine dg_s (pc' := 50) [.int (2 : Int32), .int ((dc_wi (dc_wi (dc_wi m (x0 + 7) (Int32.toNatClampNeg x1) (m.1 (x0 + 7) (Int32.toNatClampNeg ((m.1 x0 3) - (2 : Int32))))) (x0 + 7) (Int32.toNatClampNeg x2) ((dc_wi m (x0 + 7) (Int32.toNatClampNeg x1) (m.1 (x0 + 7) (Int32.toNatClampNeg ((m.1 x0 3) - (2 : Int32))))).1 (x0 + 7) (Int32.toNatClampNeg (((dc_wi m (x0 + 7) (Int32.toNatClampNeg x1) (m.1 (x0 + 7) (Int32.toNatClampNeg ((m.1 x0 3) - (2 : Int32))))).1 x0 3) - (1 : Int32))))) x0 3 (((dc_wi (dc_wi m (x0 + 7) (Int32.toNatClampNeg x1) (m.1 (x0 + 7) (Int32.toNatClampNeg ((m.1 x0 3) - (2 : Int32))))) (x0 + 7) (Int32.toNatClampNeg x2) ((dc_wi m (x0 + 7) (Int32.toNatClampNeg x1) (m.1 (x0 + 7) (Int32.toNatClampNeg ((m.1 x0 3) - (2 : Int32))))).1 (x0 + 7) (Int32.toNatClampNeg (((dc_wi m (x0 + 7) (Int32.toNatClampNeg x1) (m.1 (x0 + 7) (Int32.toNatClampNeg ((m.1 x0 3) - (2 : Int32))))).1 x0 3) - (1 : Int32))))).1 x0 3) - (2 : Int32))).1 x0 10), .ref x0] rfl (fun _ => rfl) rfl ?_
  refine dg_s (pc' := 51) [.int (((dc_wi (dc_wi (dc_wi m (x0 + 7) (Int32.toNatClampNeg x1) (m.1 (x0 + 7) (Int32.toNatClampNeg ((m.1 x0 3) - (2 : Int32))))) (x0 + 7) (Int32.toNatClampNeg x2) ((dc_wi m (x0 + 7) (Int32.toNatClampNeg x1) (m.1 (x0 + 7) (Int32.toNatClampNeg ((m.1 x0 3) - (2 : Int32))))).1 (x0 + 7) (Int32.toNatClampNeg (((dc_wi m (x0 + 7) (Int32.toNatClampNeg x1) (m.1 (x0 + 7) (Int32.toNatClampNeg ((m.1 x0 3) - (2 : Int32))))).1 x0 3) - (1 : Int32))))) x0 3 (((dc_wi (dc_wi m (x0 + 7) (Int32.toNatClampNeg x1) (m.1 (x0 + 7) (Int32.toNatClampNeg ((m.1 x0 3) - (2 : Int32))))) (x0 + 7) (Int32.toNatClampNeg x2) ((dc_wi m (x0 + 7) (Int32.toNatClampNeg x1) (m.1 (x0 + 7) (Int32.toNatClampNeg ((m.1 x0 3) - (2 : Int32))))).1 (x0 + 7) (Int32.toNatClampNeg (((dc_wi m (x0 + 7) (Int32.toNatClampNeg x1) (m.1 (x0 + 7) (Int32.toNatClampNeg ((m.1 x0 3) - (2 : Int32))))).1 x0 3) - (1 : Int32))))).1 x0 3) - (2 : Int32))).1 x0 10) - (2 : Int32)), .ref x0] rfl (fun _ => rfl) rfl ?_
  refine dg_m (pc' := 54) (dc_wi (dc_wi (dc_wi (dc_wi m (x0 + 7) (Int32.toNatClampNeg x1) (m.1 (x0 + 7) (Int32.toNatClampNeg ((m.1 x0 3) - (2 : Int32))))) (x0 + 7) (Int32.toNatClampNeg x2) ((dc_wi m (x0 + 7) (Int32.toNatClampNeg x1) (m.1 (x0 + 7) (Int32.toNatClampNeg ((m.1 x0 3) - (2 : Int32))))).1 (x0 + 7) (Int32.toNatClampNeg (((dc_wi m (x0 + 7) (Int32.toNatClampNeg x1) (m.1 (x0 + 7) (Int32.toNatClampNeg ((m.1 x0 3) - (2 : Int32))))).1 x0 3) - (1 : Int32))))) x0 3 (((dc_wi (dc_wi m (x0 + 7) (Int32.toNatClampNeg x1) (m.1 (x0 + 7) (Int32.toNatClampNeg ((m.1 x0 3) - (2 : Int32))))) (x0 + 7) (Int32.toNatClampNeg x2) ((dc_wi m (x0 + 7) (Int32.toNatClampNeg x1) (m.1 (x0 + 7) (Int32.toNatClampNeg ((m.1 x0 3) - (2 : Int32))))).1 (x0 + 7) (Int32.toNatClampNeg (((dc_wi m (x0 + 7) (Int32.toNatClampNeg x1) (m.1 (x0 + 7) (Int32.toNatClampNeg ((m.1 x0 3) - (2 : Int32))))).1 x0 3) - (1 : Int32))))).1 x0 3) - (2 : Int32))) x0 10 (((dc_wi (dc_wi (dc_wi m (x0 + 7) (Int32.toNatClampNeg x1) (m.1 (x0 + 7) (Int32.toNatClampNeg ((m.1 x0 3) - (2 : Int32))))) (x0 + 7) (Int32.toNatClampNeg x2) ((dc_wi m (x0 + 7) (Int32.toNatClampNeg x1) (m.1 (x0 + 7) (Int32.toNatClampNeg ((m.1 x0 3) - (2 : Int32))))).1 (x0 + 7) (Int32.toNatClampNeg (((dc_wi m (x0 + 7) (Int32.toNatClampNeg x1) (m.1 (x0 + 7) (Int32.toNatClampNeg ((m.1 x0 3) - (2 : Int32))))).1 x0 3) - (1 : Int32))))) x0 3 (((dc_wi (dc_wi m (x0 + 7) (Int32.toNatClampNeg x1) (m.1 (x0 + 7) (Int32.toNatClampNeg ((m.1 x0 3) - (2 : Int32))))) (x0 + 7) (Int32.toNatClampNeg x2) ((dc_wi m (x0 + 7) (Int32.toNatClampNeg x1) (m.1 (x0 + 7) (Int32.toNatClampNeg ((m.1 x0 3) - (2 : Int32))))).1 (x0 + 7) (Int32.toNatClampNeg (((dc_wi m (x0 + 7) (Int32.toNatClampNeg x1) (m.1 (x0 + 7) (Int32.toNatClampNeg ((m.1 x0 3) - (2 : Int32))))).1 x0 3) - (1 : Int32))))).1 x0 3) - (2 : Int32))).1 x0 10) - (2 : Int32))) [] rfl (fun _ => rfl) rfl ?_
  refine dg_s (pc' := 55) [.ref x0] rfl (fun _ => rfl) rfl ?_
  refine dg_s (pc' := 56) [.ref x0, .ref x0] rfl (fun _ => rfl) rfl ?_
  refine dg_s (pc' := 59) [.int ((dc_wi (dc_wi (dc_wi (dc_wi m (x0 + 7) (Int32.toNatClampNeg x1) (m.1 (x0 + 7) (Int32.toNatClampNeg ((m.1 x0 3) - (2 : Int32))))) (x0 + 7) (Int32.toNatClampNeg x2) ((dc_wi m (x0 + 7) (Int32.toNatClampNeg x1) (m.1 (x0 + 7) (Int32.toNatClampNeg ((m.1 x0 3) - (2 : Int32))))).1 (x0 + 7) (Int32.toNatClampNeg (((dc_wi m (x0 + 7) (Int32.toNatClampNeg x1) (m.1 (x0 + 7) (Int32.toNatClampNeg ((m.1 x0 3) - (2 : Int32))))).1 x0 3) - (1 : Int32))))) x0 3 (((dc_wi (dc_wi m (x0 + 7) (Int32.toNatClampNeg x1) (m.1 (x0 + 7) (Int32.toNatClampNeg ((m.1 x0 3) - (2 : Int32))))) (x0 + 7) (Int32.toNatClampNeg x2) ((dc_wi m (x0 + 7) (Int32.toNatClampNeg x1) (m.1 (x0 + 7) (Int32.toNatClampNeg ((m.1 x0 3) - (2 : Int32))))).1 (x0 + 7) (Int32.toNatClampNeg (((dc_wi m (x0 + 7) (Int32.toNatClampNeg x1) (m.1 (x0 + 7) (Int32.toNatClampNeg ((m.1 x0 3) - (2 : Int32))))).1 x0 3) - (1 : Int32))))).1 x0 3) - (2 : Int32))) x0 10 (((dc_wi (dc_wi (dc_wi m (x0 + 7) (Int32.toNatClampNeg x1) (m.1 (x0 + 7) (Int32.toNatClampNeg ((m.1 x0 3) - (2 : Int32))))) (x0 + 7) (Int32.toNatClampNeg x2) ((dc_wi m (x0 + 7) (Int32.toNatClampNeg x1) (m.1 (x0 + 7) (Int32.toNatClampNeg ((m.1 x0 3) - (2 : Int32))))).1 (x0 + 7) (Int32.toNatClampNeg (((dc_wi m (x0 + 7) (Int32.toNatClampNeg x1) (m.1 (x0 + 7) (Int32.toNatClampNeg ((m.1 x0 3) - (2 : Int32))))).1 x0 3) - (1 : Int32))))) x0 3 (((dc_wi (dc_wi m (x0 + 7) (Int32.toNatClampNeg x1) (m.1 (x0 + 7) (Int32.toNatClampNeg ((m.1 x0 3) - (2 : Int32))))) (x0 + 7) (Int32.toNatClampNeg x2) ((dc_wi m (x0 + 7) (Int32.toNatClampNeg x1) (m.1 (x0 + 7) (Int32.toNatClampNeg ((m.1 x0 3) - (2 : Int32))))).1 (x0 + 7) (Int32.toNatClampNeg (((dc_wi m (x0 + 7) (Int32.toNatClampNeg x1) (m.1 (x0 + 7) (Int32.toNatClampNeg ((m.1 x0 3) - (2 : Int32))))).1 x0 3) - (1 : Int32))))).1 x0 3) - (2 : Int32))).1 x0 10) - (2 : Int32))).1 x0 0), .ref x0] rfl (fun _ => rfl) rfl ?_
  refine dg_s (pc' := 60) [.int (1 : Int32), .int ((dc_wi (dc_wi (dc_wi (dc_wi m (x0 + 7) (Int32.toNatClampNeg x1) (m.1 (x0 + 7) (Int32.toNatClampNeg ((m.1 x0 3) - (2 : Int32))))) (x0 + 7) (Int32.toNatClampNeg x2) ((dc_wi m (x0 + 7) (Int32.toNatClampNeg x1) (m.1 (x0 + 7) (Int32.toNatClampNeg ((m.1 x0 3) - (2 : Int32))))).1 (x0 + 7) (Int32.toNatClampNeg (((dc_wi m (x0 + 7) (Int32.toNatClampNeg x1) (m.1 (x0 + 7) (Int32.toNatClampNeg ((m.1 x0 3) - (2 : Int32))))).1 x0 3) - (1 : Int32))))) x0 3 (((dc_wi (dc_wi m (x0 + 7) (Int32.toNatClampNeg x1) (m.1 (x0 + 7) (Int32.toNatClampNeg ((m.1 x0 3) - (2 : Int32))))) (x0 + 7) (Int32.toNatClampNeg x2) ((dc_wi m (x0 + 7) (Int32.toNatClampNeg x1) (m.1 (x0 + 7) (Int32.toNatClampNeg ((m.1 x0 3) - (2 : Int32))))).1 (x0 + 7) (Int32.toNatClampNeg (((dc_wi m (x0 + 7) (Int32.toNatClampNeg x1) (m.1 (x0 + 7) (Int32.toNatClampNeg ((m.1 x0 3) - (2 : Int32))))).1 x0 3) - (1 : Int32))))).1 x0 3) - (2 : Int32))) x0 10 (((dc_wi (dc_wi (dc_wi m (x0 + 7) (Int32.toNatClampNeg x1) (m.1 (x0 + 7) (Int32.toNatClampNeg ((m.1 x0 3) - (2 : Int32))))) (x0 + 7) (Int32.toNatClampNeg x2) ((dc_wi m (x0 + 7) (Int32.toNatClampNeg x1) (m.1 (x0 + 7) (Int32.toNatClampNeg ((m.1 x0 3) - (2 : Int32))))).1 (x0 + 7) (Int32.toNatClampNeg (((dc_wi m (x0 + 7) (Int32.toNatClampNeg x1) (m.1 (x0 + 7) (Int32.toNatClampNeg ((m.1 x0 3) - (2 : Int32))))).1 x0 3) - (1 : Int32))))) x0 3 (((dc_wi (dc_wi m (x0 + 7) (Int32.toNatClampNeg x1) (m.1 (x0 + 7) (Int32.toNatClampNeg ((m.1 x0 3) - (2 : Int32))))) (x0 + 7) (Int32.toNatClampNeg x2) ((dc_wi m (x0 + 7) (Int32.toNatClampNeg x1) (m.1 (x0 + 7) (Int32.toNatClampNeg ((m.1 x0 3) - (2 : Int32))))).1 (x0 + 7) (Int32.toNatClampNeg (((dc_wi m (x0 + 7) (Int32.toNatClampNeg x1) (m.1 (x0 + 7) (Int32.toNatClampNeg ((m.1 x0 3) - (2 : Int32))))).1 x0 3) - (1 : Int32))))).1 x0 3) - (2 : Int32))).1 x0 10) - (2 : Int32))).1 x0 0), .ref x0] rfl (fun _ => rfl) rfl ?_
  refine dg_s (pc' := 61) [.int (((dc_wi (dc_wi (dc_wi (dc_wi m (x0 + 7) (Int32.toNatClampNeg x1) (m.1 (x0 + 7) (Int32.toNatClampNeg ((m.1 x0 3) - (2 : Int32))))) (x0 + 7) (Int32.toNatClampNeg x2) ((dc_wi m (x0 + 7) (Int32.toNatClampNeg x1) (m.1 (x0 + 7) (Int32.toNatClampNeg ((m.1 x0 3) - (2 : Int32))))).1 (x0 + 7) (Int32.toNatClampNeg (((dc_wi m (x0 + 7) (Int32.toNatClampNeg x1) (m.1 (x0 + 7) (Int32.toNatClampNeg ((m.1 x0 3) - (2 : Int32))))).1 x0 3) - (1 : Int32))))) x0 3 (((dc_wi (dc_wi m (x0 + 7) (Int32.toNatClampNeg x1) (m.1 (x0 + 7) (Int32.toNatClampNeg ((m.1 x0 3) - (2 : Int32))))) (x0 + 7) (Int32.toNatClampNeg x2) ((dc_wi m (x0 + 7) (Int32.toNatClampNeg x1) (m.1 (x0 + 7) (Int32.toNatClampNeg ((m.1 x0 3) - (2 : Int32))))).1 (x0 + 7) (Int32.toNatClampNeg (((dc_wi m (x0 + 7) (Int32.toNatClampNeg x1) (m.1 (x0 + 7) (Int32.toNatClampNeg ((m.1 x0 3) - (2 : Int32))))).1 x0 3) - (1 : Int32))))).1 x0 3) - (2 : Int32))) x0 10 (((dc_wi (dc_wi (dc_wi m (x0 + 7) (Int32.toNatClampNeg x1) (m.1 (x0 + 7) (Int32.toNatClampNeg ((m.1 x0 3) - (2 : Int32))))) (x0 + 7) (Int32.toNatClampNeg x2) ((dc_wi m (x0 + 7) (Int32.toNatClampNeg x1) (m.1 (x0 + 7) (Int32.toNatClampNeg ((m.1 x0 3) - (2 : Int32))))).1 (x0 + 7) (Int32.toNatClampNeg (((dc_wi m (x0 + 7) (Int32.toNatClampNeg x1) (m.1 (x0 + 7) (Int32.toNatClampNeg ((m.1 x0 3) - (2 : Int32))))).1 x0 3) - (1 : Int32))))) x0 3 (((dc_wi (dc_wi m (x0 + 7) (Int32.toNatClampNeg x1) (m.1 (x0 + 7) (Int32.toNatClampNeg ((m.1 x0 3) - (2 : Int32))))) (x0 + 7) (Int32.toNatClampNeg x2) ((dc_wi m (x0 + 7) (Int32.toNatClampNeg x1) (m.1 (x0 + 7) (Int32.toNatClampNeg ((m.1 x0 3) - (2 : Int32))))).1 (x0 + 7) (Int32.toNatClampNeg (((dc_wi m (x0 + 7) (Int32.toNatClampNeg x1) (m.1 (x0 + 7) (Int32.toNatClampNeg ((m.1 x0 3) - (2 : Int32))))).1 x0 3) - (1 : Int32))))).1 x0 3) - (2 : Int32))).1 x0 10) - (2 : Int32))).1 x0 0) - (1 : Int32)), .ref x0] rfl (fun _ => rfl) rfl ?_
  refine dg_m (pc' := 64) (dc_wi (dc_wi (dc_wi (dc_wi (dc_wi m (x0 + 7) (Int32.toNatClampNeg x1) (m.1 (x0 + 7) (Int32.toNatClampNeg ((m.1 x0 3) - (2 : Int32))))) (x0 + 7) (Int32.toNatClampNeg x2) ((dc_wi m (x0 + 7) (Int32.toNatClampNeg x1) (m.1 (x0 + 7) (Int32.toNatClampNeg ((m.1 x0 3) - (2 : Int32))))).1 (x0 + 7) (Int32.toNatClampNeg (((dc_wi m (x0 + 7) (Int32.toNatClampNeg x1) (m.1 (x0 + 7) (Int32.toNatClampNeg ((m.1 x0 3) - (2 : Int32))))).1 x0 3) - (1 : Int32))))) x0 3 (((dc_wi (dc_wi m (x0 + 7) (Int32.toNatClampNeg x1) (m.1 (x0 + 7) (Int32.toNatClampNeg ((m.1 x0 3) - (2 : Int32))))) (x0 + 7) (Int32.toNatClampNeg x2) ((dc_wi m (x0 + 7) (Int32.toNatClampNeg x1) (m.1 (x0 + 7) (Int32.toNatClampNeg ((m.1 x0 3) - (2 : Int32))))).1 (x0 + 7) (Int32.toNatClampNeg (((dc_wi m (x0 + 7) (Int32.toNatClampNeg x1) (m.1 (x0 + 7) (Int32.toNatClampNeg ((m.1 x0 3) - (2 : Int32))))).1 x0 3) - (1 : Int32))))).1 x0 3) - (2 : Int32))) x0 10 (((dc_wi (dc_wi (dc_wi m (x0 + 7) (Int32.toNatClampNeg x1) (m.1 (x0 + 7) (Int32.toNatClampNeg ((m.1 x0 3) - (2 : Int32))))) (x0 + 7) (Int32.toNatClampNeg x2) ((dc_wi m (x0 + 7) (Int32.toNatClampNeg x1) (m.1 (x0 + 7) (Int32.toNatClampNeg ((m.1 x0 3) - (2 : Int32))))).1 (x0 + 7) (Int32.toNatClampNeg (((dc_wi m (x0 + 7) (Int32.toNatClampNeg x1) (m.1 (x0 + 7) (Int32.toNatClampNeg ((m.1 x0 3) - (2 : Int32))))).1 x0 3) - (1 : Int32))))) x0 3 (((dc_wi (dc_wi m (x0 + 7) (Int32.toNatClampNeg x1) (m.1 (x0 + 7) (Int32.toNatClampNeg ((m.1 x0 3) - (2 : Int32))))) (x0 + 7) (Int32.toNatClampNeg x2) ((dc_wi m (x0 + 7) (Int32.toNatClampNeg x1) (m.1 (x0 + 7) (Int32.toNatClampNeg ((m.1 x0 3) - (2 : Int32))))).1 (x0 + 7) (Int32.toNatClampNeg (((dc_wi m (x0 + 7) (Int32.toNatClampNeg x1) (m.1 (x0 + 7) (Int32.toNatClampNeg ((m.1 x0 3) - (2 : Int32))))).1 x0 3) - (1 : Int32))))).1 x0 3) - (2 : Int32))).1 x0 10) - (2 : Int32))) x0 0 (((dc_wi (dc_wi (dc_wi (dc_wi m (x0 + 7) (Int32.toNatClampNeg x1) (m.1 (x0 + 7) (Int32.toNatClampNeg ((m.1 x0 3) - (2 : Int32))))) (x0 + 7) (Int32.toNatClampNeg x2) ((dc_wi m (x0 + 7) (Int32.toNatClampNeg x1) (m.1 (x0 + 7) (Int32.toNatClampNeg ((m.1 x0 3) - (2 : Int32))))).1 (x0 + 7) (Int32.toNatClampNeg (((dc_wi m (x0 + 7) (Int32.toNatClampNeg x1) (m.1 (x0 + 7) (Int32.toNatClampNeg ((m.1 x0 3) - (2 : Int32))))).1 x0 3) - (1 : Int32))))) x0 3 (((dc_wi (dc_wi m (x0 + 7) (Int32.toNatClampNeg x1) (m.1 (x0 + 7) (Int32.toNatClampNeg ((m.1 x0 3) - (2 : Int32))))) (x0 + 7) (Int32.toNatClampNeg x2) ((dc_wi m (x0 + 7) (Int32.toNatClampNeg x1) (m.1 (x0 + 7) (Int32.toNatClampNeg ((m.1 x0 3) - (2 : Int32))))).1 (x0 + 7) (Int32.toNatClampNeg (((dc_wi m (x0 + 7) (Int32.toNatClampNeg x1) (m.1 (x0 + 7) (Int32.toNatClampNeg ((m.1 x0 3) - (2 : Int32))))).1 x0 3) - (1 : Int32))))).1 x0 3) - (2 : Int32))) x0 10 (((dc_wi (dc_wi (dc_wi m (x0 + 7) (Int32.toNatClampNeg x1) (m.1 (x0 + 7) (Int32.toNatClampNeg ((m.1 x0 3) - (2 : Int32))))) (x0 + 7) (Int32.toNatClampNeg x2) ((dc_wi m (x0 + 7) (Int32.toNatClampNeg x1) (m.1 (x0 + 7) (Int32.toNatClampNeg ((m.1 x0 3) - (2 : Int32))))).1 (x0 + 7) (Int32.toNatClampNeg (((dc_wi m (x0 + 7) (Int32.toNatClampNeg x1) (m.1 (x0 + 7) (Int32.toNatClampNeg ((m.1 x0 3) - (2 : Int32))))).1 x0 3) - (1 : Int32))))) x0 3 (((dc_wi (dc_wi m (x0 + 7) (Int32.toNatClampNeg x1) (m.1 (x0 + 7) (Int32.toNatClampNeg ((m.1 x0 3) - (2 : Int32))))) (x0 + 7) (Int32.toNatClampNeg x2) ((dc_wi m (x0 + 7) (Int32.toNatClampNeg x1) (m.1 (x0 + 7) (Int32.toNatClampNeg ((m.1 x0 3) - (2 : Int32))))).1 (x0 + 7) (Int32.toNatClampNeg (((dc_wi m (x0 + 7) (Int32.toNatClampNeg x1) (m.1 (x0 + 7) (Int32.toNatClampNeg ((m.1 x0 3) - (2 : Int32))))).1 x0 3) - (1 : Int32))))).1 x0 3) - (2 : Int32))).1 x0 10) - (2 : Int32))).1 x0 0) - (1 : Int32))) [] rfl (fun _ => rfl) rfl ?_
  exact dw_r (some (.inl (none, (dc_wi (dc_wi (dc_wi (dc_wi (dc_wi m (x0 + 7) (Int32.toNatClampNeg x1) (m.1 (x0 + 7) (Int32.toNatClampNeg ((m.1 x0 3) - (2 : Int32))))) (x0 + 7) (Int32.toNatClampNeg x2) ((dc_wi m (x0 + 7) (Int32.toNatClampNeg x1) (m.1 (x0 + 7) (Int32.toNatClampNeg ((m.1 x0 3) - (2 : Int32))))).1 (x0 + 7) (Int32.toNatClampNeg (((dc_wi m (x0 + 7) (Int32.toNatClampNeg x1) (m.1 (x0 + 7) (Int32.toNatClampNeg ((m.1 x0 3) - (2 : Int32))))).1 x0 3) - (1 : Int32))))) x0 3 (((dc_wi (dc_wi m (x0 + 7) (Int32.toNatClampNeg x1) (m.1 (x0 + 7) (Int32.toNatClampNeg ((m.1 x0 3) - (2 : Int32))))) (x0 + 7) (Int32.toNatClampNeg x2) ((dc_wi m (x0 + 7) (Int32.toNatClampNeg x1) (m.1 (x0 + 7) (Int32.toNatClampNeg ((m.1 x0 3) - (2 : Int32))))).1 (x0 + 7) (Int32.toNatClampNeg (((dc_wi m (x0 + 7) (Int32.toNatClampNeg x1) (m.1 (x0 + 7) (Int32.toNatClampNeg ((m.1 x0 3) - (2 : Int32))))).1 x0 3) - (1 : Int32))))).1 x0 3) - (2 : Int32))) x0 10 (((dc_wi (dc_wi (dc_wi m (x0 + 7) (Int32.toNatClampNeg x1) (m.1 (x0 + 7) (Int32.toNatClampNeg ((m.1 x0 3) - (2 : Int32))))) (x0 + 7) (Int32.toNatClampNeg x2) ((dc_wi m (x0 + 7) (Int32.toNatClampNeg x1) (m.1 (x0 + 7) (Int32.toNatClampNeg ((m.1 x0 3) - (2 : Int32))))).1 (x0 + 7) (Int32.toNatClampNeg (((dc_wi m (x0 + 7) (Int32.toNatClampNeg x1) (m.1 (x0 + 7) (Int32.toNatClampNeg ((m.1 x0 3) - (2 : Int32))))).1 x0 3) - (1 : Int32))))) x0 3 (((dc_wi (dc_wi m (x0 + 7) (Int32.toNatClampNeg x1) (m.1 (x0 + 7) (Int32.toNatClampNeg ((m.1 x0 3) - (2 : Int32))))) (x0 + 7) (Int32.toNatClampNeg x2) ((dc_wi m (x0 + 7) (Int32.toNatClampNeg x1) (m.1 (x0 + 7) (Int32.toNatClampNeg ((m.1 x0 3) - (2 : Int32))))).1 (x0 + 7) (Int32.toNatClampNeg (((dc_wi m (x0 + 7) (Int32.toNatClampNeg x1) (m.1 (x0 + 7) (Int32.toNatClampNeg ((m.1 x0 3) - (2 : Int32))))).1 x0 3) - (1 : Int32))))).1 x0 3) - (2 : Int32))).1 x0 10) - (2 : Int32))) x0 0 (((dc_wi (dc_wi (dc_wi (dc_wi m (x0 + 7) (Int32.toNatClampNeg x1) (m.1 (x0 + 7) (Int32.toNatClampNeg ((m.1 x0 3) - (2 : Int32))))) (x0 + 7) (Int32.toNatClampNeg x2) ((dc_wi m (x0 + 7) (Int32.toNatClampNeg x1) (m.1 (x0 + 7) (Int32.toNatClampNeg ((m.1 x0 3) - (2 : Int32))))).1 (x0 + 7) (Int32.toNatClampNeg (((dc_wi m (x0 + 7) (Int32.toNatClampNeg x1) (m.1 (x0 + 7) (Int32.toNatClampNeg ((m.1 x0 3) - (2 : Int32))))).1 x0 3) - (1 : Int32))))) x0 3 (((dc_wi (dc_wi m (x0 + 7) (Int32.toNatClampNeg x1) (m.1 (x0 + 7) (Int32.toNatClampNeg ((m.1 x0 3) - (2 : Int32))))) (x0 + 7) (Int32.toNatClampNeg x2) ((dc_wi m (x0 + 7) (Int32.toNatClampNeg x1) (m.1 (x0 + 7) (Int32.toNatClampNeg ((m.1 x0 3) - (2 : Int32))))).1 (x0 + 7) (Int32.toNatClampNeg (((dc_wi m (x0 + 7) (Int32.toNatClampNeg x1) (m.1 (x0 + 7) (Int32.toNatClampNeg ((m.1 x0 3) - (2 : Int32))))).1 x0 3) - (1 : Int32))))).1 x0 3) - (2 : Int32))) x0 10 (((dc_wi (dc_wi (dc_wi m (x0 + 7) (Int32.toNatClampNeg x1) (m.1 (x0 + 7) (Int32.toNatClampNeg ((m.1 x0 3) - (2 : Int32))))) (x0 + 7) (Int32.toNatClampNeg x2) ((dc_wi m (x0 + 7) (Int32.toNatClampNeg x1) (m.1 (x0 + 7) (Int32.toNatClampNeg ((m.1 x0 3) - (2 : Int32))))).1 (x0 + 7) (Int32.toNatClampNeg (((dc_wi m (x0 + 7) (Int32.toNatClampNeg x1) (m.1 (x0 + 7) (Int32.toNatClampNeg ((m.1 x0 3) - (2 : Int32))))).1 x0 3) - (1 : Int32))))) x0 3 (((dc_wi (dc_wi m (x0 + 7) (Int32.toNatClampNeg x1) (m.1 (x0 + 7) (Int32.toNatClampNeg ((m.1 x0 3) - (2 : Int32))))) (x0 + 7) (Int32.toNatClampNeg x2) ((dc_wi m (x0 + 7) (Int32.toNatClampNeg x1) (m.1 (x0 + 7) (Int32.toNatClampNeg ((m.1 x0 3) - (2 : Int32))))).1 (x0 + 7) (Int32.toNatClampNeg (((dc_wi m (x0 + 7) (Int32.toNatClampNeg x1) (m.1 (x0 + 7) (Int32.toNatClampNeg ((m.1 x0 3) - (2 : Int32))))).1 x0 3) - (1 : Int32))))).1 x0 3) - (2 : Int32))).1 x0 10) - (2 : Int32))).1 x0 0) - (1 : Int32)))))) rfl (fun _ => rfl) (kR _)
def H_X10_dropCure : dc_H := fun As m k => match As with
  | [.ref x0, .int x1, .int x2] => dc_let (d_X10_dropCure x0 x1 x2 m) (fun q => k (none) q)
  | _ => dc_kz
theorem H_X10_dropCure_ok {u : Nat} : dc_cok u 206 H_X10_dropCure := fun M' hG N As m k P hz hP => by
  obtain rfl : ab_M_X10_dropCure = M' := Option.some.inj hG
  unfold H_X10_dropCure at hP
  split at hP
  · rename_i x0 x1 x2
    exact dc_pv.imp (k_X10_dropCure (Φ := fun (t : dc_M) r m' => P (dc_let t (fun q => k (none) q)) → P (k r m')) x0 x1 x2 m (fun _ h => h) rfl rfl rfl) (fun r m' h => h hP)
  · exact absurd hP hz
noncomputable def C_X10_tryCure : List (Nat × dc_H) := [(205, H_X10_addCure), (206, H_X10_dropCure), (185, H_X10_layBacks), (183, H_X10_layQuarrels), (175, H_X10_layRight)]
theorem CO_X10_tryCure {u : Nat} : dc_CO u C_X10_tryCure := dc_CO_cons H_X10_addCure_ok (dc_CO_cons H_X10_dropCure_ok (dc_CO_cons H_X10_layBacks_ok (dc_CO_cons H_X10_layQuarrels_ok (dc_CO_cons H_X10_layRight_ok (dc_CO_nil)))))
def S_X10_tryCure : List (Nat × List Nat) := []
noncomputable def d_X10_tryCure (x0 : Nat) (x1 : Int32) (x2 : Int32) (m : dc_M) : Option (Int32 × dc_M) :=
  ((d_X10_addCure x0 x1 x2 m).bind (fun q1 => ((d_X10_layRight x0 q1).bind (fun q2 => (if (Int32.toInt q2.1) = 0 then (dc_let (d_X10_dropCure x0 x1 x2 q2.2) (fun q3 => some (((-10 : Int32), q3)))) else ((d_X10_layBacks x0 q2.2).bind (fun q4 => ((d_X10_layQuarrels x0 q4).bind (fun q5 => (if (Int32.toInt (q5.1 x0 43)) ≤ 0 then (dc_let (d_X10_dropCure x0 x1 x2 q5) (fun q6 => some (((q5.1 x0 40), q6)))) else (dc_let (d_X10_dropCure x0 x1 x2 q5) (fun q7 => some (((-11 : Int32), q7))))))))))))))
set_option maxHeartbeats 8000000 in
theorem k_X10_tryCure {u : Nat} {N : Nat} {Φ : (Option (Int32 × dc_M)) → Option Value → dc_M → Prop} (x0 : Nat) (x1 : Int32) (x2 : Int32) (m : dc_M) (kR : ∀ (v : Int32) (m : dc_M), Φ (some ((v, m))) (some (.int v)) m)  {lv : ab_L} (f0 : ab_lk lv 0 = some (.ref x0)) (f1 : ab_lk lv 1 = some (.int x1)) (f2 : ab_lk lv 2 = some (.int x2)) : dc_pv u N ab_M_X10_tryCure 0 lv [] m (Φ (d_X10_tryCure x0 x1 x2 m)) := by
  refine dc_pv.mono (dc_ok (C := C_X10_tryCure) (S := S_X10_tryCure) CO_X10_tryCure 400 0 [(0, .ref x0), (1, .int x1), (2, .int x2)] lv [] m (dc_sub_cons f0 (dc_sub_cons f1 (dc_sub_cons f2 (dc_sub_nil)))) ?_) (Nat.le_succ N)
  unfold d_X10_tryCure
  refine dg_s (pc' := 1) [.ref x0] rfl (fun _ => rfl) rfl ?_
  refine dg_s (pc' := 2) [.int x1, .ref x0] rfl (fun _ => rfl) rfl ?_
  refine dg_s (pc' := 3) [.int x2, .int x1, .ref x0] rfl (fun _ => rfl) rfl ?_
  refine dw_b (fun t => Φ t) (pc' := 6) (fun q1 => []) (fun q1 => q1) rfl (fun _ => rfl) (fun q1 => ?_)
  refine dw_g rfl ?_
  refine dg_s (pc' := 8) [.int (-10 : Int32)] rfl (fun _ => rfl) rfl ?_
  refine dg_L (pc' := 9) [(3, .int (-10 : Int32)), (0, .ref x0), (1, .int x1), (2, .int x2)] [] rfl (fun _ => rfl) rfl ?_
  refine dg_s (pc' := 10) [.ref x0] rfl (fun _ => rfl) rfl ?_
  refine dw_b (fun t => Φ t) (pc' := 13) (fun q2 => [.int q2.1]) (fun q2 => q2.2) rfl (fun _ => rfl) (fun q2 => ?_)
  refine dw_g rfl ?_
  refine dw_if (fun t => Φ t) ((Int32.toInt q2.1) = 0) [] 41 16 rfl (fun _ => rfl) (fun c0 => ?_) (fun c0 => ?_)
  · refine dw_g rfl ?_
    refine dg_s (pc' := 42) [.ref x0] rfl (fun _ => rfl) rfl ?_
    refine dg_s (pc' := 43) [.int x1, .ref x0] rfl (fun _ => rfl) rfl ?_
    refine dg_s (pc' := 44) [.int x2, .int x1, .ref x0] rfl (fun _ => rfl) rfl ?_
    refine dw_l (fun t => Φ t) (pc' := 47) (fun q3 => []) (fun q3 => q3) rfl (fun _ => rfl) (fun q3 => ?_)
    refine dw_g rfl ?_
    refine dg_s (pc' := 48) [.int (-10 : Int32)] rfl (fun _ => rfl) rfl ?_
    exact dw_r (some (.inl (some (.int (-10 : Int32)), q3))) rfl (fun _ => rfl) (kR _ _)
  · refine dw_g rfl ?_
    refine dg_s (pc' := 17) [.ref x0] rfl (fun _ => rfl) rfl ?_
    refine dw_b (fun t => Φ t) (pc' := 20) (fun q4 => []) (fun q4 => q4) rfl (fun _ => rfl) (fun q4 => ?_)
    refine dw_g rfl ?_
    refine dg_s (pc' := 21) [.ref x0] rfl (fun _ => rfl) rfl ?_
    refine dw_b (fun t => Φ t) (pc' := 24) (fun q5 => []) (fun q5 => q5) rfl (fun _ => rfl) (fun q5 => ?_)
    refine dw_g rfl ?_
    refine dg_s (pc' := 25) [.ref x0] rfl (fun _ => rfl) rfl ?_
    refine dg_s (pc' := 28) [.int (q5.1 x0 43)] rfl (fun _ => rfl) rfl ?_
    refine dw_if (fun t => Φ t) ((Int32.toInt (q5.1 x0 43)) ≤ 0) [] 36 31 rfl (fun _ => rfl) (fun c1 => ?_) (fun c1 => ?_)
    · refine dw_g rfl ?_
      refine dg_s (pc' := 37) [.ref x0] rfl (fun _ => rfl) rfl ?_
      refine dg_s (pc' := 40) [.int (q5.1 x0 40)] rfl (fun _ => rfl) rfl ?_
      refine dg_L (pc' := 41) [(3, .int (q5.1 x0 40)), (0, .ref x0), (1, .int x1), (2, .int x2)] [] rfl (fun _ => rfl) rfl ?_
      refine dg_s (pc' := 42) [.ref x0] rfl (fun _ => rfl) rfl ?_
      refine dg_s (pc' := 43) [.int x1, .ref x0] rfl (fun _ => rfl) rfl ?_
      refine dg_s (pc' := 44) [.int x2, .int x1, .ref x0] rfl (fun _ => rfl) rfl ?_
      refine dw_l (fun t => Φ t) (pc' := 47) (fun q6 => []) (fun q6 => q6) rfl (fun _ => rfl) (fun q6 => ?_)
      refine dw_g rfl ?_
      refine dg_s (pc' := 48) [.int (q5.1 x0 40)] rfl (fun _ => rfl) rfl ?_
      exact dw_r (some (.inl (some (.int (q5.1 x0 40)), q6))) rfl (fun _ => rfl) (kR _ _)
    · refine dw_g rfl ?_
      refine dg_s (pc' := 33) [.int (-11 : Int32)] rfl (fun _ => rfl) rfl ?_
      refine dg_s (pc' := 40) [.int (-11 : Int32)] rfl (fun _ => rfl) rfl ?_
      refine dg_L (pc' := 41) [(3, .int (-11 : Int32)), (0, .ref x0), (1, .int x1), (2, .int x2)] [] rfl (fun _ => rfl) rfl ?_
      refine dg_s (pc' := 42) [.ref x0] rfl (fun _ => rfl) rfl ?_
      refine dg_s (pc' := 43) [.int x1, .ref x0] rfl (fun _ => rfl) rfl ?_
      refine dg_s (pc' := 44) [.int x2, .int x1, .ref x0] rfl (fun _ => rfl) rfl ?_
      refine dw_l (fun t => Φ t) (pc' := 47) (fun q7 => []) (fun q7 => q7) rfl (fun _ => rfl) (fun q7 => ?_)
      refine dw_g rfl ?_
      refine dg_s (pc' := 48) [.int (-11 : Int32)] rfl (fun _ => rfl) rfl ?_
      exact dw_r (some (.inl (some (.int (-11 : Int32)), q7))) rfl (fun _ => rfl) (kR _ _)
noncomputable def H_X10_tryCure : dc_H := fun As m k => match As with
  | [.ref x0, .int x1, .int x2] => (d_X10_tryCure x0 x1 x2 m).bind (fun q => k (some (.int q.1)) q.2)
  | _ => dc_kz
theorem H_X10_tryCure_ok {u : Nat} : dc_cok u 207 H_X10_tryCure := fun M' hG N As m k P hz hP => by
  obtain rfl : ab_M_X10_tryCure = M' := Option.some.inj hG
  unfold H_X10_tryCure at hP
  split at hP
  · rename_i x0 x1 x2
    exact dc_pv.imp (k_X10_tryCure (Φ := fun (t : Option (Int32 × dc_M)) r m' => P (t.bind (fun q => k (some (.int q.1)) q.2)) → P (k r m')) x0 x1 x2 m (fun _ _ h => h) rfl rfl rfl) (fun r m' h => h hP)
  · exact absurd hP hz
noncomputable def C_X10_would : List (Nat × dc_H) := [(163, H_X10_isEvent), (203, H_X10_isFull), (175, H_X10_layRight), (207, H_X10_tryCure)]
theorem CO_X10_would {u : Nat} : dc_CO u C_X10_would := dc_CO_cons H_X10_isEvent_ok (dc_CO_cons H_X10_isFull_ok (dc_CO_cons H_X10_layRight_ok (dc_CO_cons H_X10_tryCure_ok (dc_CO_nil))))
def S_X10_would : List (Nat × List Nat) := []
noncomputable def d_X10_would (x0 : Nat) (x1 : Int32) (x2 : Int32) (m : dc_M) : Option (Int32 × dc_M) :=
  (if (Int32.toInt (d_X10_isEvent x0 x1 m)) = 0 then some (((-1 : Int32), m)) else (if (Int32.toInt (d_X10_isEvent x0 x2 m)) = 0 then some (((-1 : Int32), m)) else (if ¬ (Int32.toInt x1) = (Int32.toInt x2) then ((d_X10_layRight x0 m).bind (fun q1 => (if ¬ (Int32.toInt q1.1) = 0 then (if (Int32.toInt (d_X10_isFull x0 q1.2)) = 0 then ((d_X10_tryCure x0 x1 x2 q1.2).bind (fun q2 => some ((q2.1, q2.2)))) else some (((-3 : Int32), q1.2))) else some (((-2 : Int32), q1.2))))) else some (((-1 : Int32), m)))))
set_option maxHeartbeats 8000000 in
theorem k_X10_would {u : Nat} {N : Nat} {Φ : (Option (Int32 × dc_M)) → Option Value → dc_M → Prop} (x0 : Nat) (x1 : Int32) (x2 : Int32) (m : dc_M) (kR : ∀ (v : Int32) (m : dc_M), Φ (some ((v, m))) (some (.int v)) m)  {lv : ab_L} (f0 : ab_lk lv 0 = some (.ref x0)) (f1 : ab_lk lv 1 = some (.int x1)) (f2 : ab_lk lv 2 = some (.int x2)) : dc_pv u N ab_M_X10_would 0 lv [] m (Φ (d_X10_would x0 x1 x2 m)) := by
  refine dc_pv.mono (dc_ok (C := C_X10_would) (S := S_X10_would) CO_X10_would 400 0 [(0, .ref x0), (1, .int x1), (2, .int x2)] lv [] m (dc_sub_cons f0 (dc_sub_cons f1 (dc_sub_cons f2 (dc_sub_nil)))) ?_) (Nat.le_succ N)
  unfold d_X10_would
  refine dg_s (pc' := 1) [.ref x0] rfl (fun _ => rfl) rfl ?_
  refine dg_s (pc' := 2) [.int x1, .ref x0] rfl (fun _ => rfl) rfl ?_
  refine dg_s (pc' := 5) [.int (d_X10_isEvent x0 x1 m)] rfl (fun _ => rfl) rfl ?_
  refine dw_if (fun t => Φ t) ((Int32.toInt (d_X10_isEvent x0 x1 m)) = 0) [] 21 8 rfl (fun _ => rfl) (fun c0 => ?_) (fun c0 => ?_)
  · refine dw_g rfl ?_
    refine dg_s (pc' := 22) [.int (-1 : Int32)] rfl (fun _ => rfl) rfl ?_
    exact dw_r (some (.inl (some (.int (-1 : Int32)), m))) rfl (fun _ => rfl) (kR _ _)
  · refine dw_g rfl ?_
    refine dg_s (pc' := 9) [.ref x0] rfl (fun _ => rfl) rfl ?_
    refine dg_s (pc' := 10) [.int x2, .ref x0] rfl (fun _ => rfl) rfl ?_
    refine dg_s (pc' := 13) [.int (d_X10_isEvent x0 x2 m)] rfl (fun _ => rfl) rfl ?_
    refine dw_if (fun t => Φ t) ((Int32.toInt (d_X10_isEvent x0 x2 m)) = 0) [] 21 16 rfl (fun _ => rfl) (fun c1 => ?_) (fun c1 => ?_)
    · refine dw_g rfl ?_
      refine dg_s (pc' := 22) [.int (-1 : Int32)] rfl (fun _ => rfl) rfl ?_
      exact dw_r (some (.inl (some (.int (-1 : Int32)), m))) rfl (fun _ => rfl) (kR _ _)
    · refine dw_g rfl ?_
      refine dg_s (pc' := 17) [.int x1] rfl (fun _ => rfl) rfl ?_
      refine dg_s (pc' := 18) [.int x2, .int x1] rfl (fun _ => rfl) rfl ?_
      refine dw_if (fun t => Φ t) (¬ (Int32.toInt x1) = (Int32.toInt x2)) [] 23 21 rfl (fun _ => rfl) (fun c2 => ?_) (fun c2 => ?_)
      · refine dw_g rfl ?_
        refine dg_s (pc' := 24) [.ref x0] rfl (fun _ => rfl) rfl ?_
        refine dw_b (fun t => Φ t) (pc' := 27) (fun q1 => [.int q1.1]) (fun q1 => q1.2) rfl (fun _ => rfl) (fun q1 => ?_)
        refine dw_g rfl ?_
        refine dw_if (fun t => Φ t) (¬ (Int32.toInt q1.1) = 0) [] 33 30 rfl (fun _ => rfl) (fun c3 => ?_) (fun c3 => ?_)
        · refine dw_g rfl ?_
          refine dg_s (pc' := 34) [.ref x0] rfl (fun _ => rfl) rfl ?_
          refine dg_s (pc' := 37) [.int (d_X10_isFull x0 q1.2)] rfl (fun _ => rfl) rfl ?_
          refine dw_if (fun t => Φ t) ((Int32.toInt (d_X10_isFull x0 q1.2)) = 0) [] 45 40 rfl (fun _ => rfl) (fun c4 => ?_) (fun c4 => ?_)
          · refine dw_g rfl ?_
            refine dg_s (pc' := 46) [.ref x0] rfl (fun _ => rfl) rfl ?_
            refine dg_s (pc' := 47) [.int x1, .ref x0] rfl (fun _ => rfl) rfl ?_
            refine dg_s (pc' := 48) [.int x2, .int x1, .ref x0] rfl (fun _ => rfl) rfl ?_
            refine dw_b (fun t => Φ t) (pc' := 51) (fun q2 => [.int q2.1]) (fun q2 => q2.2) rfl (fun _ => rfl) (fun q2 => ?_)
            refine dw_g rfl ?_
            exact dw_r (some (.inl (some (.int q2.1), q2.2))) rfl (fun _ => rfl) (kR _ _)
          · refine dw_g rfl ?_
            refine dg_s (pc' := 42) [.int (-3 : Int32)] rfl (fun _ => rfl) rfl ?_
            refine dg_s (pc' := 51) [.int (-3 : Int32)] rfl (fun _ => rfl) rfl ?_
            exact dw_r (some (.inl (some (.int (-3 : Int32)), q1.2))) rfl (fun _ => rfl) (kR _ _)
        · refine dw_g rfl ?_
          refine dg_s (pc' := 32) [.int (-2 : Int32)] rfl (fun _ => rfl) rfl ?_
          exact dw_r (some (.inl (some (.int (-2 : Int32)), q1.2))) rfl (fun _ => rfl) (kR _ _)
      · refine dw_g rfl ?_
        refine dg_s (pc' := 22) [.int (-1 : Int32)] rfl (fun _ => rfl) rfl ?_
        exact dw_r (some (.inl (some (.int (-1 : Int32)), m))) rfl (fun _ => rfl) (kR _ _)
noncomputable def H_X10_would : dc_H := fun As m k => match As with
  | [.ref x0, .int x1, .int x2] => (d_X10_would x0 x1 x2 m).bind (fun q => k (some (.int q.1)) q.2)
  | _ => dc_kz
theorem H_X10_would_ok {u : Nat} : dc_cok u 208 H_X10_would := fun M' hG N As m k P hz hP => by
  obtain rfl : ab_M_X10_would = M' := Option.some.inj hG
  unfold H_X10_would at hP
  split at hP
  · rename_i x0 x1 x2
    exact dc_pv.imp (k_X10_would (Φ := fun (t : Option (Int32 × dc_M)) r m' => P (t.bind (fun q => k (some (.int q.1)) q.2)) → P (k r m')) x0 x1 x2 m (fun _ _ h => h) rfl rfl rfl) (fun r m' h => h hP)
  · exact absurd hP hz
noncomputable def C_X10_cure : List (Nat × dc_H) := [(205, H_X10_addCure), (221, H_X10_begin), (163, H_X10_isEvent), (203, H_X10_isFull), (175, H_X10_layRight)]
theorem CO_X10_cure {u : Nat} : dc_CO u C_X10_cure := dc_CO_cons H_X10_addCure_ok (dc_CO_cons H_X10_begin_ok (dc_CO_cons H_X10_isEvent_ok (dc_CO_cons H_X10_isFull_ok (dc_CO_cons H_X10_layRight_ok (dc_CO_nil)))))
def S_X10_cure : List (Nat × List Nat) := []
noncomputable def d_X10_cure (x0 : Nat) (x1 : Int32) (x2 : Int32) (m : dc_M) : Option (Int32 × dc_M) :=
  (if (Int32.toInt (d_X10_isEvent x0 x1 m)) = 0 then some (((-1 : Int32), m)) else (if (Int32.toInt (d_X10_isEvent x0 x2 m)) = 0 then some (((-1 : Int32), m)) else (if ¬ (Int32.toInt x1) = (Int32.toInt x2) then ((d_X10_layRight x0 m).bind (fun q1 => (if ¬ (Int32.toInt q1.1) = 0 then (if (Int32.toInt (d_X10_isFull x0 q1.2)) = 0 then ((d_X10_addCure x0 x1 x2 q1.2).bind (fun q2 => (dc_let (d_X10_begin x0 q2) (fun q3 => some ((((q3.1 x0 0) - (1 : Int32)), q3)))))) else some (((-3 : Int32), q1.2))) else some (((-2 : Int32), q1.2))))) else some (((-1 : Int32), m)))))
set_option maxHeartbeats 8000000 in
theorem k_X10_cure {u : Nat} {N : Nat} {Φ : (Option (Int32 × dc_M)) → Option Value → dc_M → Prop} (x0 : Nat) (x1 : Int32) (x2 : Int32) (m : dc_M) (kR : ∀ (v : Int32) (m : dc_M), Φ (some ((v, m))) (some (.int v)) m)  {lv : ab_L} (f0 : ab_lk lv 0 = some (.ref x0)) (f1 : ab_lk lv 1 = some (.int x1)) (f2 : ab_lk lv 2 = some (.int x2)) : dc_pv u N ab_M_X10_cure 0 lv [] m (Φ (d_X10_cure x0 x1 x2 m)) := by
  refine dc_pv.mono (dc_ok (C := C_X10_cure) (S := S_X10_cure) CO_X10_cure 400 0 [(0, .ref x0), (1, .int x1), (2, .int x2)] lv [] m (dc_sub_cons f0 (dc_sub_cons f1 (dc_sub_cons f2 (dc_sub_nil)))) ?_) (Nat.le_succ N)
  unfold d_X10_cure
  refine dg_s (pc' := 1) [.ref x0] rfl (fun _ => rfl) rfl ?_
  refine dg_s (pc' := 2) [.int x1, .ref x0] rfl (fun _ => rfl) rfl ?_
  refine dg_s (pc' := 5) [.int (d_X10_isEvent x0 x1 m)] rfl (fun _ => rfl) rfl ?_
  refine dw_if (fun t => Φ t) ((Int32.toInt (d_X10_isEvent x0 x1 m)) = 0) [] 21 8 rfl (fun _ => rfl) (fun c0 => ?_) (fun c0 => ?_)
  · refine dw_g rfl ?_
    refine dg_s (pc' := 22) [.int (-1 : Int32)] rfl (fun _ => rfl) rfl ?_
    exact dw_r (some (.inl (some (.int (-1 : Int32)), m))) rfl (fun _ => rfl) (kR _ _)
  · refine dw_g rfl ?_
    refine dg_s (pc' := 9) [.ref x0] rfl (fun _ => rfl) rfl ?_
    refine dg_s (pc' := 10) [.int x2, .ref x0] rfl (fun _ => rfl) rfl ?_
    refine dg_s (pc' := 13) [.int (d_X10_isEvent x0 x2 m)] rfl (fun _ => rfl) rfl ?_
    refine dw_if (fun t => Φ t) ((Int32.toInt (d_X10_isEvent x0 x2 m)) = 0) [] 21 16 rfl (fun _ => rfl) (fun c1 => ?_) (fun c1 => ?_)
    · refine dw_g rfl ?_
      refine dg_s (pc' := 22) [.int (-1 : Int32)] rfl (fun _ => rfl) rfl ?_
      exact dw_r (some (.inl (some (.int (-1 : Int32)), m))) rfl (fun _ => rfl) (kR _ _)
    · refine dw_g rfl ?_
      refine dg_s (pc' := 17) [.int x1] rfl (fun _ => rfl) rfl ?_
      refine dg_s (pc' := 18) [.int x2, .int x1] rfl (fun _ => rfl) rfl ?_
      refine dw_if (fun t => Φ t) (¬ (Int32.toInt x1) = (Int32.toInt x2)) [] 23 21 rfl (fun _ => rfl) (fun c2 => ?_) (fun c2 => ?_)
      · refine dw_g rfl ?_
        refine dg_s (pc' := 24) [.ref x0] rfl (fun _ => rfl) rfl ?_
        refine dw_b (fun t => Φ t) (pc' := 27) (fun q1 => [.int q1.1]) (fun q1 => q1.2) rfl (fun _ => rfl) (fun q1 => ?_)
        refine dw_g rfl ?_
        refine dw_if (fun t => Φ t) (¬ (Int32.toInt q1.1) = 0) [] 33 30 rfl (fun _ => rfl) (fun c3 => ?_) (fun c3 => ?_)
        · refine dw_g rfl ?_
          refine dg_s (pc' := 34) [.ref x0] rfl (fun _ => rfl) rfl ?_
          refine dg_s (pc' := 37) [.int (d_X10_isFull x0 q1.2)] rfl (fun _ => rfl) rfl ?_
          refine dw_if (fun t => Φ t) ((Int32.toInt (d_X10_isFull x0 q1.2)) = 0) [] 43 40 rfl (fun _ => rfl) (fun c4 => ?_) (fun c4 => ?_)
          · refine dw_g rfl ?_
            refine dg_s (pc' := 44) [.ref x0] rfl (fun _ => rfl) rfl ?_
            refine dg_s (pc' := 45) [.int x1, .ref x0] rfl (fun _ => rfl) rfl ?_
            refine dg_s (pc' := 46) [.int x2, .int x1, .ref x0] rfl (fun _ => rfl) rfl ?_
            refine dw_b (fun t => Φ t) (pc' := 49) (fun q2 => []) (fun q2 => q2) rfl (fun _ => rfl) (fun q2 => ?_)
            refine dw_g rfl ?_
            refine dg_s (pc' := 50) [.ref x0] rfl (fun _ => rfl) rfl ?_
            refine dw_l (fun t => Φ t) (pc' := 53) (fun q3 => []) (fun q3 => q3) rfl (fun _ => rfl) (fun q3 => ?_)
            refine dw_g rfl ?_
            refine dg_s (pc' := 54) [.ref x0] rfl (fun _ => rfl) rfl ?_
            refine dg_s (pc' := 57) [.int (q3.1 x0 0)] rfl (fun _ => rfl) rfl ?_
            refine dg_s (pc' := 58) [.int (1 : Int32), .int (q3.1 x0 0)] rfl (fun _ => rfl) rfl ?_
            refine dg_s (pc' := 59) [.int ((q3.1 x0 0) - (1 : Int32))] rfl (fun _ => rfl) rfl ?_
            exact dw_r (some (.inl (some (.int ((q3.1 x0 0) - (1 : Int32))), q3))) rfl (fun _ => rfl) (kR _ _)
          · refine dw_g rfl ?_
            refine dg_s (pc' := 42) [.int (-3 : Int32)] rfl (fun _ => rfl) rfl ?_
            exact dw_r (some (.inl (some (.int (-3 : Int32)), q1.2))) rfl (fun _ => rfl) (kR _ _)
        · refine dw_g rfl ?_
          refine dg_s (pc' := 32) [.int (-2 : Int32)] rfl (fun _ => rfl) rfl ?_
          exact dw_r (some (.inl (some (.int (-2 : Int32)), q1.2))) rfl (fun _ => rfl) (kR _ _)
      · refine dw_g rfl ?_
        refine dg_s (pc' := 22) [.int (-1 : Int32)] rfl (fun _ => rfl) rfl ?_
        exact dw_r (some (.inl (some (.int (-1 : Int32)), m))) rfl (fun _ => rfl) (kR _ _)
noncomputable def H_X10_cure : dc_H := fun As m k => match As with
  | [.ref x0, .int x1, .int x2] => (d_X10_cure x0 x1 x2 m).bind (fun q => k (some (.int q.1)) q.2)
  | _ => dc_kz
theorem H_X10_cure_ok {u : Nat} : dc_cok u 209 H_X10_cure := fun M' hG N As m k P hz hP => by
  obtain rfl : ab_M_X10_cure = M' := Option.some.inj hG
  unfold H_X10_cure at hP
  split at hP
  · rename_i x0 x1 x2
    exact dc_pv.imp (k_X10_cure (Φ := fun (t : Option (Int32 × dc_M)) r m' => P (t.bind (fun q => k (some (.int q.1)) q.2)) → P (k r m')) x0 x1 x2 m (fun _ _ h => h) rfl rfl rfl) (fun r m' h => h hP)
  · exact absurd hP hz
noncomputable def C_X10_cures : List (Nat × dc_H) := [(146, H_X10_in), (203, H_X10_isFull), (175, H_X10_layRight), (207, H_X10_tryCure)]
theorem CO_X10_cures {u : Nat} : dc_CO u C_X10_cures := dc_CO_cons H_X10_in_ok (dc_CO_cons H_X10_isFull_ok (dc_CO_cons H_X10_layRight_ok (dc_CO_cons H_X10_tryCure_ok (dc_CO_nil))))
def S_X10_cures : List (Nat × List Nat) := [(40, [0, 1, 2, 3, 4]), (52, [0, 1, 2, 3, 4, 5]), (111, [1, 2, 3])]
noncomputable def d_X10_cures_b111 (x1 : Int32) (x2 : Int32) (x3 : Int32) (m : dc_M) : Option (Int32 × dc_M) :=
  (if ¬ (Int32.toInt x1) = 0 then some ((x3, m)) else some ((x2, m)))
set_option maxHeartbeats 8000000 in
theorem k_X10_cures_b111 {u : Nat} {N : Nat} {Φ : (Option (Int32 × dc_M)) → Option Value → dc_M → Prop} (x1 : Int32) (x2 : Int32) (x3 : Int32) (m : dc_M) (kR : ∀ (v : Int32) (m : dc_M), Φ (some ((v, m))) (some (.int v)) m)  {lv : ab_L} (f1 : ab_lk lv 1 = some (.int x1)) (f2 : ab_lk lv 2 = some (.int x2)) (f3 : ab_lk lv 3 = some (.int x3)) : dc_pv u N ab_M_X10_cures 111 lv [] m (Φ (d_X10_cures_b111 x1 x2 x3 m)) := by
  refine dc_pv.mono (dc_ok (C := C_X10_cures) (S := S_X10_cures) CO_X10_cures 400 111 [(1, .int x1), (2, .int x2), (3, .int x3)] lv [] m (dc_sub_cons f1 (dc_sub_cons f2 (dc_sub_cons f3 (dc_sub_nil)))) ?_) (Nat.le_succ N)
  unfold d_X10_cures_b111
  refine dg_s (pc' := 112) [.int x1] rfl (fun _ => rfl) rfl ?_
  refine dw_if (fun t => Φ t) (¬ (Int32.toInt x1) = 0) [] 119 115 rfl (fun _ => rfl) (fun c0 => ?_) (fun c0 => ?_)
  · refine dw_g rfl ?_
    refine dg_s (pc' := 120) [.int x3] rfl (fun _ => rfl) rfl ?_
    exact dw_r (some (.inl (some (.int x3), m))) rfl (fun _ => rfl) (kR _ _)
  · refine dw_g rfl ?_
    refine dg_s (pc' := 116) [.int x2] rfl (fun _ => rfl) rfl ?_
    refine dg_s (pc' := 120) [.int x2] rfl (fun _ => rfl) rfl ?_
    exact dw_r (some (.inl (some (.int x2), m))) rfl (fun _ => rfl) (kR _ _)
noncomputable def d_X10_cures_l52b (x0 : Nat) (x1 : Int32) (x4 : Int32) (x2 : Int32) (x3 : Int32) (x5 : Int32) (m : dc_M) : Option ((Int32 × Int32 × Int32 × dc_M) ⊕ ((Int32 × Int32 × Int32 × dc_M) ⊕ (Int32 × dc_M))) :=
  (if (Int32.toInt (m.1 x0 3)) ≤ (Int32.toInt x5) then some (Sum.inr (Sum.inl (x2, x3, (x4 + (1 : Int32)), m))) else (if (Int32.toInt x4) = (Int32.toInt x5) then some (Sum.inl (x2, x3, (x5 + (1 : Int32)), m)) else ((d_X10_tryCure x0 x4 x5 m).bind (fun q1 => (if ¬ (Int32.toInt q1.1) = 0 then some (Sum.inl (x2, x3, (x5 + (1 : Int32)), q1.2)) else (if ¬ (Int32.toInt x3) = 0 then some (Sum.inl (x2, (x3 + (1 : Int32)), (x5 + (1 : Int32)), q1.2)) else some (Sum.inl ((((100 : Int32) * x4) + x5), (x3 + (1 : Int32)), (x5 + (1 : Int32)), q1.2))))))))
noncomputable def d_X10_cures_l52s (x0 : Nat) (x1 : Int32) (x4 : Int32) : (Int32 × Int32 × Int32 × dc_M) → Option ((Int32 × Int32 × Int32 × dc_M) ⊕ ((Int32 × Int32 × Int32 × dc_M) ⊕ (Int32 × dc_M))) := fun s => d_X10_cures_l52b x0 x1 x4 s.1 s.2.1 s.2.2.1 s.2.2.2
noncomputable def d_X10_cures_l52 (x0 : Nat) (x1 : Int32) (x4 : Int32) (x2 : Int32) (x3 : Int32) (x5 : Int32) (m : dc_M) : Option ((Int32 × Int32 × Int32 × dc_M) ⊕ (Int32 × dc_M)) := dc_lp (d_X10_cures_l52s x0 x1 x4) (x2, x3, x5, m)
set_option maxHeartbeats 8000000 in
theorem k_X10_cures_l52 {u : Nat} {Φ : (Option ((Int32 × Int32 × Int32 × dc_M) ⊕ (Int32 × dc_M))) → Option Value → dc_M → Prop} (x0 : Nat) (x1 : Int32) (x4 : Int32) (kR : ∀ (v : Int32) (m : dc_M), Φ (some (Sum.inr ((v, m)))) (some (.int v)) m) : ∀ (N : Nat), (∀ (x2 : Int32) (x3 : Int32) (x4 : Int32) (m : dc_M) (lv : ab_L), ab_lk lv 0 = some (.ref x0) → ab_lk lv 1 = some (.int x1) → ab_lk lv 2 = some (.int x2) → ab_lk lv 3 = some (.int x3) → ab_lk lv 4 = some (.int x4) →  dc_pv u N ab_M_X10_cures 40 lv [] m (Φ (some (Sum.inl (x2, x3, x4, m))))) → ∀ (x2 : Int32) (x3 : Int32) (x5 : Int32) (m : dc_M) (lv : ab_L), ab_lk lv 0 = some (.ref x0) → ab_lk lv 1 = some (.int x1) → ab_lk lv 2 = some (.int x2) → ab_lk lv 3 = some (.int x3) → ab_lk lv 4 = some (.int x4) → ab_lk lv 5 = some (.int x5) → dc_pv u N ab_M_X10_cures 52 lv [] m (Φ (d_X10_cures_l52 x0 x1 x4 x2 x3 x5 m)) := by
  intro N
  induction N with
  | zero => intros; exact dc_pv_zero
  | succ N ih =>
    intro k40 x2 x3 x5 m lv f0 f1 f2 f3 f4 f5
    have k40 := fun a0 a1 a2 a3 a4 a5 a6 a7 a8 a9 => (k40 a0 a1 a2 a3 a4 a5 a6 a7 a8 a9).mono (Nat.le_succ N)
    have ih := ih k40
    refine dc_ok (C := C_X10_cures) (S := S_X10_cures) CO_X10_cures 400 52 [(0, .ref x0), (1, .int x1), (2, .int x2), (3, .int x3), (4, .int x4), (5, .int x5)] lv [] m (dc_sub_cons f0 (dc_sub_cons f1 (dc_sub_cons f2 (dc_sub_cons f3 (dc_sub_cons f4 (dc_sub_cons f5 (dc_sub_nil))))))) ?_
    unfold d_X10_cures_l52
    rw [dc_lp_eq]
    show (fun t x => dc_lf u N ab_M_X10_cures (Φ (Option.bind t (dc_bk (d_X10_cures_l52s x0 x1 x4)))) x) (d_X10_cures_l52b x0 x1 x4 x2 x3 x5 m) _
    dsimp only
    unfold d_X10_cures_l52b
    refine dg_s (pc' := 54) [.int x5] rfl (fun _ => rfl) rfl ?_
    refine dg_s (pc' := 55) [.ref x0, .int x5] rfl (fun _ => rfl) rfl ?_
    refine dg_s (pc' := 58) [.int (m.1 x0 3), .int x5] rfl (fun _ => rfl) rfl ?_
    refine dw_if (fun t => Φ (Option.bind t (dc_bk (d_X10_cures_l52s x0 x1 x4)))) ((Int32.toInt (m.1 x0 3)) ≤ (Int32.toInt x5)) [] 105 61 rfl (fun _ => rfl) (fun c0 => ?_) (fun c0 => ?_)
    · refine dw_g rfl ?_
      refine dg_L (pc' := 108) [(4, .int (x4 + (1 : Int32))), (0, .ref x0), (1, .int x1), (2, .int x2), (3, .int x3), (5, .int x5)] [] rfl (fun _ => rfl) rfl ?_
      refine dw_s (pc' := 40) [] rfl (fun _ => rfl) ?_
      exact dw_j rfl (fun lv1 hv => k40 x2 x3 (x4 + (1 : Int32)) m lv1 (hv.1 _ rfl) (hv.2.1 _ rfl) (hv.2.2.1 _ rfl) (hv.2.2.2.1 _ rfl) (hv.2.2.2.2.1 _ rfl))
    · refine dw_g rfl ?_
      refine dg_s (pc' := 63) [.int x4] rfl (fun _ => rfl) rfl ?_
      refine dg_s (pc' := 65) [.int x5, .int x4] rfl (fun _ => rfl) rfl ?_
      refine dw_if (fun t => Φ (Option.bind t (dc_bk (d_X10_cures_l52s x0 x1 x4)))) ((Int32.toInt x4) = (Int32.toInt x5)) [] 99 68 rfl (fun _ => rfl) (fun c1 => ?_) (fun c1 => ?_)
      · refine dw_g rfl ?_
        refine dg_L (pc' := 102) [(5, .int (x5 + (1 : Int32))), (0, .ref x0), (1, .int x1), (2, .int x2), (3, .int x3), (4, .int x4)] [] rfl (fun _ => rfl) rfl ?_
        refine dw_s (pc' := 52) [] rfl (fun _ => rfl) ?_
        exact dw_j rfl (fun lv1 hv => ih x2 x3 (x5 + (1 : Int32)) m lv1 (hv.1 _ rfl) (hv.2.1 _ rfl) (hv.2.2.1 _ rfl) (hv.2.2.2.1 _ rfl) (hv.2.2.2.2.1 _ rfl) (hv.2.2.2.2.2.1 _ rfl))
      · refine dw_g rfl ?_
        refine dg_s (pc' := 69) [.ref x0] rfl (fun _ => rfl) rfl ?_
        refine dg_s (pc' := 71) [.int x4, .ref x0] rfl (fun _ => rfl) rfl ?_
        refine dg_s (pc' := 73) [.int x5, .int x4, .ref x0] rfl (fun _ => rfl) rfl ?_
        refine dw_b (fun t => Φ (Option.bind t (dc_bk (d_X10_cures_l52s x0 x1 x4)))) (pc' := 76) (fun q1 => [.int q1.1]) (fun q1 => q1.2) rfl (fun _ => rfl) (fun q1 => ?_)
        refine dw_g rfl ?_
        refine dw_if (fun t => Φ (Option.bind t (dc_bk (d_X10_cures_l52s x0 x1 x4)))) (¬ (Int32.toInt q1.1) = 0) [] 99 79 rfl (fun _ => rfl) (fun c2 => ?_) (fun c2 => ?_)
        · refine dw_g rfl ?_
          refine dg_L (pc' := 102) [(5, .int (x5 + (1 : Int32))), (0, .ref x0), (1, .int x1), (2, .int x2), (3, .int x3), (4, .int x4)] [] rfl (fun _ => rfl) rfl ?_
          refine dw_s (pc' := 52) [] rfl (fun _ => rfl) ?_
          exact dw_j rfl (fun lv1 hv => ih x2 x3 (x5 + (1 : Int32)) q1.2 lv1 (hv.1 _ rfl) (hv.2.1 _ rfl) (hv.2.2.1 _ rfl) (hv.2.2.2.1 _ rfl) (hv.2.2.2.2.1 _ rfl) (hv.2.2.2.2.2.1 _ rfl))
        · refine dw_g rfl ?_
          refine dg_s (pc' := 80) [.int x3] rfl (fun _ => rfl) rfl ?_
          refine dw_if (fun t => Φ (Option.bind t (dc_bk (d_X10_cures_l52s x0 x1 x4)))) (¬ (Int32.toInt x3) = 0) [] 94 83 rfl (fun _ => rfl) (fun c3 => ?_) (fun c3 => ?_)
          · refine dw_g rfl ?_
            refine dg_s (pc' := 95) [.int x2] rfl (fun _ => rfl) rfl ?_
            refine dg_L (pc' := 96) [(2, .int x2), (0, .ref x0), (1, .int x1), (3, .int x3), (4, .int x4), (5, .int x5)] [] rfl (fun _ => rfl) rfl ?_
            refine dg_L (pc' := 99) [(3, .int (x3 + (1 : Int32))), (2, .int x2), (0, .ref x0), (1, .int x1), (4, .int x4), (5, .int x5)] [] rfl (fun _ => rfl) rfl ?_
            refine dg_L (pc' := 102) [(5, .int (x5 + (1 : Int32))), (3, .int (x3 + (1 : Int32))), (2, .int x2), (0, .ref x0), (1, .int x1), (4, .int x4)] [] rfl (fun _ => rfl) rfl ?_
            refine dw_s (pc' := 52) [] rfl (fun _ => rfl) ?_
            exact dw_j rfl (fun lv1 hv => ih x2 (x3 + (1 : Int32)) (x5 + (1 : Int32)) q1.2 lv1 (hv.1 _ rfl) (hv.2.1 _ rfl) (hv.2.2.1 _ rfl) (hv.2.2.2.1 _ rfl) (hv.2.2.2.2.1 _ rfl) (hv.2.2.2.2.2.1 _ rfl))
          · refine dw_g rfl ?_
            refine dg_s (pc' := 85) [.int (100 : Int32)] rfl (fun _ => rfl) rfl ?_
            refine dg_s (pc' := 87) [.int x4, .int (100 : Int32)] rfl (fun _ => rfl) rfl ?_
            refine dg_s (pc' := 88) [.int ((100 : Int32) * x4)] rfl (fun _ => rfl) rfl ?_
            refine dg_s (pc' := 90) [.int x5, .int ((100 : Int32) * x4)] rfl (fun _ => rfl) rfl ?_
            refine dg_s (pc' := 91) [.int (((100 : Int32) * x4) + x5)] rfl (fun _ => rfl) rfl ?_
            refine dg_s (pc' := 95) [.int (((100 : Int32) * x4) + x5)] rfl (fun _ => rfl) rfl ?_
            refine dg_L (pc' := 96) [(2, .int (((100 : Int32) * x4) + x5)), (0, .ref x0), (1, .int x1), (3, .int x3), (4, .int x4), (5, .int x5)] [] rfl (fun _ => rfl) rfl ?_
            refine dg_L (pc' := 99) [(3, .int (x3 + (1 : Int32))), (2, .int (((100 : Int32) * x4) + x5)), (0, .ref x0), (1, .int x1), (4, .int x4), (5, .int x5)] [] rfl (fun _ => rfl) rfl ?_
            refine dg_L (pc' := 102) [(5, .int (x5 + (1 : Int32))), (3, .int (x3 + (1 : Int32))), (2, .int (((100 : Int32) * x4) + x5)), (0, .ref x0), (1, .int x1), (4, .int x4)] [] rfl (fun _ => rfl) rfl ?_
            refine dw_s (pc' := 52) [] rfl (fun _ => rfl) ?_
            exact dw_j rfl (fun lv1 hv => ih (((100 : Int32) * x4) + x5) (x3 + (1 : Int32)) (x5 + (1 : Int32)) q1.2 lv1 (hv.1 _ rfl) (hv.2.1 _ rfl) (hv.2.2.1 _ rfl) (hv.2.2.2.1 _ rfl) (hv.2.2.2.2.1 _ rfl) (hv.2.2.2.2.2.1 _ rfl))
noncomputable def d_X10_cures_l40b (x0 : Nat) (x1 : Int32) (x2 : Int32) (x3 : Int32) (x4 : Int32) (m : dc_M) : Option ((Int32 × Int32 × Int32 × dc_M) ⊕ (Int32 × dc_M)) :=
  (if (Int32.toInt (m.1 x0 3)) ≤ (Int32.toInt x4) then ((d_X10_cures_b111 x1 x2 x3 m).map (fun z => Sum.inr (z))) else (d_X10_cures_l52 x0 x1 x4 x2 x3 (0 : Int32) m))
noncomputable def d_X10_cures_l40s (x0 : Nat) (x1 : Int32) : (Int32 × Int32 × Int32 × dc_M) → Option ((Int32 × Int32 × Int32 × dc_M) ⊕ (Int32 × dc_M)) := fun s => d_X10_cures_l40b x0 x1 s.1 s.2.1 s.2.2.1 s.2.2.2
noncomputable def d_X10_cures_l40 (x0 : Nat) (x1 : Int32) (x2 : Int32) (x3 : Int32) (x4 : Int32) (m : dc_M) : Option (Int32 × dc_M) := dc_lp (d_X10_cures_l40s x0 x1) (x2, x3, x4, m)
set_option maxHeartbeats 8000000 in
theorem k_X10_cures_l40 {u : Nat} {Φ : (Option (Int32 × dc_M)) → Option Value → dc_M → Prop} (x0 : Nat) (x1 : Int32) (kR : ∀ (v : Int32) (m : dc_M), Φ (some ((v, m))) (some (.int v)) m) : ∀ (N : Nat), ∀ (x2 : Int32) (x3 : Int32) (x4 : Int32) (m : dc_M) (lv : ab_L), ab_lk lv 0 = some (.ref x0) → ab_lk lv 1 = some (.int x1) → ab_lk lv 2 = some (.int x2) → ab_lk lv 3 = some (.int x3) → ab_lk lv 4 = some (.int x4) → dc_pv u N ab_M_X10_cures 40 lv [] m (Φ (d_X10_cures_l40 x0 x1 x2 x3 x4 m)) := by
  intro N
  induction N with
  | zero => intros; exact dc_pv_zero
  | succ N ih =>
    intro x2 x3 x4 m lv f0 f1 f2 f3 f4
    refine dc_ok (C := C_X10_cures) (S := S_X10_cures) CO_X10_cures 400 40 [(0, .ref x0), (1, .int x1), (2, .int x2), (3, .int x3), (4, .int x4)] lv [] m (dc_sub_cons f0 (dc_sub_cons f1 (dc_sub_cons f2 (dc_sub_cons f3 (dc_sub_cons f4 (dc_sub_nil)))))) ?_
    unfold d_X10_cures_l40
    rw [dc_lp_eq]
    show (fun t x => dc_lf u N ab_M_X10_cures (Φ (Option.bind t (dc_bk (d_X10_cures_l40s x0 x1)))) x) (d_X10_cures_l40b x0 x1 x2 x3 x4 m) _
    dsimp only
    unfold d_X10_cures_l40b
    refine dg_s (pc' := 42) [.int x4] rfl (fun _ => rfl) rfl ?_
    refine dg_s (pc' := 43) [.ref x0, .int x4] rfl (fun _ => rfl) rfl ?_
    refine dg_s (pc' := 46) [.int (m.1 x0 3), .int x4] rfl (fun _ => rfl) rfl ?_
    refine dw_if (fun t => Φ (Option.bind t (dc_bk (d_X10_cures_l40s x0 x1)))) ((Int32.toInt (m.1 x0 3)) ≤ (Int32.toInt x4)) [] 111 49 rfl (fun _ => rfl) (fun c0 => ?_) (fun c0 => ?_)
    · exact dw_j rfl (fun lv1 hv => k_X10_cures_b111 (Φ := (fun t => Φ (Option.bind (t.map (fun z => Sum.inr (z))) (dc_bk (d_X10_cures_l40s x0 x1))))) x1 x2 x3 m (fun _a _b => kR _a _b)  (hv.1 _ rfl) (hv.2.1 _ rfl) (hv.2.2.1 _ rfl))
    · refine dw_g rfl ?_
      refine dg_s (pc' := 50) [.int (0 : Int32)] rfl (fun _ => rfl) rfl ?_
      refine dw_L (pc' := 52) [(5, .int (0 : Int32)), (0, .ref x0), (1, .int x1), (2, .int x2), (3, .int x3), (4, .int x4)] [] rfl (fun _ => rfl) ?_
      exact dw_j rfl (fun lv1 hv => k_X10_cures_l52 (Φ := (fun t => Φ (Option.bind t (dc_bk (d_X10_cures_l40s x0 x1))))) x0 x1 x4 (fun _a _b => kR _a _b) N ih x2 x3 (0 : Int32) m lv1 (hv.1 _ rfl) (hv.2.1 _ rfl) (hv.2.2.1 _ rfl) (hv.2.2.2.1 _ rfl) (hv.2.2.2.2.1 _ rfl) (hv.2.2.2.2.2.1 _ rfl))
noncomputable def d_X10_cures (x0 : Nat) (x1 : Int32) (m : dc_M) : Option (Int32 × dc_M) :=
  (if ¬ (Int32.toInt (d_X10_in (Int32.toInt64 x1) (0 : Int64) (1 : Int64) m)) = 0 then ((d_X10_layRight x0 m).bind (fun q1 => (if ¬ (Int32.toInt q1.1) = 0 then (if (Int32.toInt (d_X10_isFull x0 q1.2)) = 0 then (d_X10_cures_l40 x0 x1 (-4 : Int32) (0 : Int32) (0 : Int32) q1.2) else some (((-3 : Int32), q1.2))) else some (((-2 : Int32), q1.2))))) else some (((-1 : Int32), m)))
set_option maxHeartbeats 8000000 in
theorem k_X10_cures {u : Nat} {N : Nat} {Φ : (Option (Int32 × dc_M)) → Option Value → dc_M → Prop} (x0 : Nat) (x1 : Int32) (m : dc_M) (kR : ∀ (v : Int32) (m : dc_M), Φ (some ((v, m))) (some (.int v)) m)  {lv : ab_L} (f0 : ab_lk lv 0 = some (.ref x0)) (f1 : ab_lk lv 1 = some (.int x1)) : dc_pv u N ab_M_X10_cures 0 lv [] m (Φ (d_X10_cures x0 x1 m)) := by
  refine dc_pv.mono (dc_ok (C := C_X10_cures) (S := S_X10_cures) CO_X10_cures 400 0 [(0, .ref x0), (1, .int x1)] lv [] m (dc_sub_cons f0 (dc_sub_cons f1 (dc_sub_nil))) ?_) (Nat.le_succ N)
  unfold d_X10_cures
  refine dg_s (pc' := 1) [.int x1] rfl (fun _ => rfl) rfl ?_
  refine dg_s (pc' := 2) [.long (Int32.toInt64 x1)] rfl (fun _ => rfl) rfl ?_
  refine dg_s (pc' := 3) [.long (0 : Int64), .long (Int32.toInt64 x1)] rfl (fun _ => rfl) rfl ?_
  refine dg_s (pc' := 4) [.long (1 : Int64), .long (0 : Int64), .long (Int32.toInt64 x1)] rfl (fun _ => rfl) rfl ?_
  refine dg_s (pc' := 7) [.int (d_X10_in (Int32.toInt64 x1) (0 : Int64) (1 : Int64) m)] rfl (fun _ => rfl) rfl ?_
  refine dw_if (fun t => Φ t) (¬ (Int32.toInt (d_X10_in (Int32.toInt64 x1) (0 : Int64) (1 : Int64) m)) = 0) [] 12 10 rfl (fun _ => rfl) (fun c0 => ?_) (fun c0 => ?_)
  · refine dw_g rfl ?_
    refine dg_s (pc' := 13) [.ref x0] rfl (fun _ => rfl) rfl ?_
    refine dw_b (fun t => Φ t) (pc' := 16) (fun q1 => [.int q1.1]) (fun q1 => q1.2) rfl (fun _ => rfl) (fun q1 => ?_)
    refine dw_g rfl ?_
    refine dw_if (fun t => Φ t) (¬ (Int32.toInt q1.1) = 0) [] 22 19 rfl (fun _ => rfl) (fun c1 => ?_) (fun c1 => ?_)
    · refine dw_g rfl ?_
      refine dg_s (pc' := 23) [.ref x0] rfl (fun _ => rfl) rfl ?_
      refine dg_s (pc' := 26) [.int (d_X10_isFull x0 q1.2)] rfl (fun _ => rfl) rfl ?_
      refine dw_if (fun t => Φ t) ((Int32.toInt (d_X10_isFull x0 q1.2)) = 0) [] 32 29 rfl (fun _ => rfl) (fun c2 => ?_) (fun c2 => ?_)
      · refine dw_g rfl ?_
        refine dg_s (pc' := 34) [.int (-4 : Int32)] rfl (fun _ => rfl) rfl ?_
        refine dg_L (pc' := 35) [(2, .int (-4 : Int32)), (0, .ref x0), (1, .int x1)] [] rfl (fun _ => rfl) rfl ?_
        refine dg_s (pc' := 36) [.int (0 : Int32)] rfl (fun _ => rfl) rfl ?_
        refine dg_L (pc' := 37) [(3, .int (0 : Int32)), (2, .int (-4 : Int32)), (0, .ref x0), (1, .int x1)] [] rfl (fun _ => rfl) rfl ?_
        refine dg_s (pc' := 38) [.int (0 : Int32)] rfl (fun _ => rfl) rfl ?_
        refine dw_L (pc' := 40) [(4, .int (0 : Int32)), (3, .int (0 : Int32)), (2, .int (-4 : Int32)), (0, .ref x0), (1, .int x1)] [] rfl (fun _ => rfl) ?_
        exact dw_j rfl (fun lv1 hv => k_X10_cures_l40 (Φ := (fun t => Φ t)) x0 x1 (fun _a _b => kR _a _b) N  (-4 : Int32) (0 : Int32) (0 : Int32) q1.2 lv1 (hv.1 _ rfl) (hv.2.1 _ rfl) (hv.2.2.1 _ rfl) (hv.2.2.2.1 _ rfl) (hv.2.2.2.2.1 _ rfl))
      · refine dw_g rfl ?_
        refine dg_s (pc' := 31) [.int (-3 : Int32)] rfl (fun _ => rfl) rfl ?_
        exact dw_r (some (.inl (some (.int (-3 : Int32)), q1.2))) rfl (fun _ => rfl) (kR _ _)
    · refine dw_g rfl ?_
      refine dg_s (pc' := 21) [.int (-2 : Int32)] rfl (fun _ => rfl) rfl ?_
      exact dw_r (some (.inl (some (.int (-2 : Int32)), q1.2))) rfl (fun _ => rfl) (kR _ _)
  · refine dw_g rfl ?_
    refine dg_s (pc' := 11) [.int (-1 : Int32)] rfl (fun _ => rfl) rfl ?_
    exact dw_r (some (.inl (some (.int (-1 : Int32)), m))) rfl (fun _ => rfl) (kR _ _)
noncomputable def H_X10_cures : dc_H := fun As m k => match As with
  | [.ref x0, .int x1] => (d_X10_cures x0 x1 m).bind (fun q => k (some (.int q.1)) q.2)
  | _ => dc_kz
theorem H_X10_cures_ok {u : Nat} : dc_cok u 210 H_X10_cures := fun M' hG N As m k P hz hP => by
  obtain rfl : ab_M_X10_cures = M' := Option.some.inj hG
  unfold H_X10_cures at hP
  split at hP
  · rename_i x0 x1
    exact dc_pv.imp (k_X10_cures (Φ := fun (t : Option (Int32 × dc_M)) r m' => P (t.bind (fun q => k (some (.int q.1)) q.2)) → P (k r m')) x0 x1 m (fun _ _ h => h) rfl rfl) (fun r m' h => h hP)
  · exact absurd hP hz
def C_X10_delay : List (Nat × dc_H) := [(146, H_X10_in), (163, H_X10_isEvent)]
theorem CO_X10_delay {u : Nat} : dc_CO u C_X10_delay := dc_CO_cons H_X10_in_ok (dc_CO_cons H_X10_isEvent_ok (dc_CO_nil))
def S_X10_delay : List (Nat × List Nat) := []
def d_X10_delay (x0 : Nat) (x1 : Int32) (x2 : Int32) (m : dc_M) : (Int32 × dc_M) :=
  (if (Int32.toInt (d_X10_isEvent x0 x1 m)) = 0 then ((-1 : Int32), m) else (if ¬ (Int32.toInt (d_X10_in (Int32.toInt64 x2) (1 : Int64) (20 : Int64) m)) = 0 then ((m.1 (x0 + 8) (Int32.toNatClampNeg x1)), (dc_wi m (x0 + 8) (Int32.toNatClampNeg x1) x2)) else ((-1 : Int32), m)))
set_option maxHeartbeats 8000000 in
theorem k_X10_delay {u : Nat} {N : Nat} {Φ : (Int32 × dc_M) → Option Value → dc_M → Prop} (x0 : Nat) (x1 : Int32) (x2 : Int32) (m : dc_M) (kR : ∀ (v : Int32) (m : dc_M), Φ ((v, m)) (some (.int v)) m)  {lv : ab_L} (f0 : ab_lk lv 0 = some (.ref x0)) (f1 : ab_lk lv 1 = some (.int x1)) (f2 : ab_lk lv 2 = some (.int x2)) : dc_pv u N ab_M_X10_delay 0 lv [] m (Φ (d_X10_delay x0 x1 x2 m)) := by
  refine dc_pv.mono (dc_ok (C := C_X10_delay) (S := S_X10_delay) CO_X10_delay 400 0 [(0, .ref x0), (1, .int x1), (2, .int x2)] lv [] m (dc_sub_cons f0 (dc_sub_cons f1 (dc_sub_cons f2 (dc_sub_nil)))) ?_) (Nat.le_succ N)
  unfold d_X10_delay
  refine dg_s (pc' := 1) [.ref x0] rfl (fun _ => rfl) rfl ?_
  refine dg_s (pc' := 2) [.int x1, .ref x0] rfl (fun _ => rfl) rfl ?_
  refine dg_s (pc' := 5) [.int (d_X10_isEvent x0 x1 m)] rfl (fun _ => rfl) rfl ?_
  refine dw_if (fun t => Φ t) ((Int32.toInt (d_X10_isEvent x0 x1 m)) = 0) [] 20 8 rfl (fun _ => rfl) (fun c0 => ?_) (fun c0 => ?_)
  · refine dw_g rfl ?_
    refine dg_s (pc' := 21) [.int (-1 : Int32)] rfl (fun _ => rfl) rfl ?_
    exact dw_r (some (.inl (some (.int (-1 : Int32)), m))) rfl (fun _ => rfl) (kR _ _)
  · refine dw_g rfl ?_
    refine dg_s (pc' := 9) [.int x2] rfl (fun _ => rfl) rfl ?_
    refine dg_s (pc' := 10) [.long (Int32.toInt64 x2)] rfl (fun _ => rfl) rfl ?_
    refine dg_s (pc' := 11) [.long (1 : Int64), .long (Int32.toInt64 x2)] rfl (fun _ => rfl) rfl ?_
    refine dg_s (pc' := 14) [.long (20 : Int64), .long (1 : Int64), .long (Int32.toInt64 x2)] rfl (fun _ => rfl) rfl ?_
    refine dg_s (pc' := 17) [.int (d_X10_in (Int32.toInt64 x2) (1 : Int64) (20 : Int64) m)] rfl (fun _ => rfl) rfl ?_
    refine dw_if (fun t => Φ t) (¬ (Int32.toInt (d_X10_in (Int32.toInt64 x2) (1 : Int64) (20 : Int64) m)) = 0) [] 22 20 rfl (fun _ => rfl) (fun c1 => ?_) (fun c1 => ?_)
    · refine dw_g rfl ?_
      refine dg_s (pc' := 23) [.ref x0] rfl (fun _ => rfl) rfl ?_
      refine dg_s (pc' := 26) [.ref (x0 + 8)] rfl (fun _ => rfl) rfl ?_
      refine dg_s (pc' := 27) [.int x1, .ref (x0 + 8)] rfl (fun _ => rfl) rfl ?_
      refine dg_s (pc' := 28) [.int (m.1 (x0 + 8) (Int32.toNatClampNeg x1))] rfl (fun _ => rfl) rfl ?_
      refine dg_L (pc' := 29) [(3, .int (m.1 (x0 + 8) (Int32.toNatClampNeg x1))), (0, .ref x0), (1, .int x1), (2, .int x2)] [] rfl (fun _ => rfl) rfl ?_
      refine dg_s (pc' := 30) [.ref x0] rfl (fun _ => rfl) rfl ?_
      refine dg_s (pc' := 33) [.ref (x0 + 8)] rfl (fun _ => rfl) rfl ?_
      refine dg_s (pc' := 34) [.int x1, .ref (x0 + 8)] rfl (fun _ => rfl) rfl ?_
      refine dg_s (pc' := 35) [.int x2, .int x1, .ref (x0 + 8)] rfl (fun _ => rfl) rfl ?_
      refine dg_m (pc' := 36) (dc_wi m (x0 + 8) (Int32.toNatClampNeg x1) x2) [] rfl (fun _ => rfl) rfl ?_
      refine dg_s (pc' := 37) [.int (m.1 (x0 + 8) (Int32.toNatClampNeg x1))] rfl (fun _ => rfl) rfl ?_
      exact dw_r (some (.inl (some (.int (m.1 (x0 + 8) (Int32.toNatClampNeg x1))), (dc_wi m (x0 + 8) (Int32.toNatClampNeg x1) x2)))) rfl (fun _ => rfl) (kR _ _)
    · refine dw_g rfl ?_
      refine dg_s (pc' := 21) [.int (-1 : Int32)] rfl (fun _ => rfl) rfl ?_
      exact dw_r (some (.inl (some (.int (-1 : Int32)), m))) rfl (fun _ => rfl) (kR _ _)
def H_X10_delay : dc_H := fun As m k => match As with
  | [.ref x0, .int x1, .int x2] => dc_let (d_X10_delay x0 x1 x2 m) (fun q => k (some (.int q.1)) q.2)
  | _ => dc_kz
theorem H_X10_delay_ok {u : Nat} : dc_cok u 211 H_X10_delay := fun M' hG N As m k P hz hP => by
  obtain rfl : ab_M_X10_delay = M' := Option.some.inj hG
  unfold H_X10_delay at hP
  split at hP
  · rename_i x0 x1 x2
    exact dc_pv.imp (k_X10_delay (Φ := fun (t : (Int32 × dc_M)) r m' => P (dc_let t (fun q => k (some (.int q.1)) q.2)) → P (k r m')) x0 x1 x2 m (fun _ _ h => h) rfl rfl rfl) (fun r m' h => h hP)
  · exact absurd hP hz
def C_X10_sizeOf : List (Nat × dc_H) := []
theorem CO_X10_sizeOf {u : Nat} : dc_CO u C_X10_sizeOf := dc_CO_nil
def S_X10_sizeOf : List (Nat × List Nat) := [(4, [0, 1, 2])]
noncomputable def d_X10_sizeOf_l4b (x0 : Int32) (x1 : Int32) (x2 : Int32) (m : dc_M) : Option ((Int32 × Int32) ⊕ Int32) :=
  (if 20 ≤ (Int32.toInt x2) then some (Sum.inr (x1)) else some (Sum.inl ((x1 + ((x0 >>> (x2 &&& 31)) &&& (1 : Int32))), (x2 + (1 : Int32)))))
noncomputable def d_X10_sizeOf_l4s (x0 : Int32) (m : dc_M) : (Int32 × Int32) → Option ((Int32 × Int32) ⊕ Int32) := fun s => d_X10_sizeOf_l4b x0 s.1 s.2 m
noncomputable def d_X10_sizeOf_l4 (x0 : Int32) (x1 : Int32) (x2 : Int32) (m : dc_M) : Option Int32 := dc_lp (d_X10_sizeOf_l4s x0 m) (x1, x2)
set_option maxHeartbeats 8000000 in
theorem k_X10_sizeOf_l4 {u : Nat} {Φ : (Option Int32) → Option Value → dc_M → Prop} (x0 : Int32) (m : dc_M) (kR : ∀ (v : Int32), Φ (some (v)) (some (.int v)) m) : ∀ (N : Nat), ∀ (x1 : Int32) (x2 : Int32) (lv : ab_L), ab_lk lv 0 = some (.int x0) → ab_lk lv 1 = some (.int x1) → ab_lk lv 2 = some (.int x2) → dc_pv u N ab_M_X10_sizeOf 4 lv [] m (Φ (d_X10_sizeOf_l4 x0 x1 x2 m)) := by
  intro N
  induction N with
  | zero => intros; exact dc_pv_zero
  | succ N ih =>
    intro x1 x2 lv f0 f1 f2
    refine dc_ok (C := C_X10_sizeOf) (S := S_X10_sizeOf) CO_X10_sizeOf 400 4 [(0, .int x0), (1, .int x1), (2, .int x2)] lv [] m (dc_sub_cons f0 (dc_sub_cons f1 (dc_sub_cons f2 (dc_sub_nil)))) ?_
    unfold d_X10_sizeOf_l4
    rw [dc_lp_eq]
    show (fun t x => dc_lf u N ab_M_X10_sizeOf (Φ (Option.bind t (dc_bk (d_X10_sizeOf_l4s x0 m)))) x) (d_X10_sizeOf_l4b x0 x1 x2 m) _
    dsimp only
    unfold d_X10_sizeOf_l4b
    refine dg_s (pc' := 5) [.int x2] rfl (fun _ => rfl) rfl ?_
    refine dg_s (pc' := 7) [.int (20 : Int32), .int x2] rfl (fun _ => rfl) rfl ?_
    refine dw_if (fun t => Φ (Option.bind t (dc_bk (d_X10_sizeOf_l4s x0 m)))) (20 ≤ (Int32.toInt x2)) [] 24 10 rfl (fun _ => rfl) (fun c0 => ?_) (fun c0 => ?_)
    · refine dw_g rfl ?_
      refine dg_s (pc' := 25) [.int x1] rfl (fun _ => rfl) rfl ?_
      exact dw_r (some (.inl (some (.int x1), m))) rfl (fun _ => rfl) (kR _)
    · refine dw_g rfl ?_
      refine dg_s (pc' := 11) [.int x1] rfl (fun _ => rfl) rfl ?_
      refine dg_s (pc' := 12) [.int x0, .int x1] rfl (fun _ => rfl) rfl ?_
      refine dg_s (pc' := 13) [.int x2, .int x0, .int x1] rfl (fun _ => rfl) rfl ?_
      refine dg_s (pc' := 14) [.int (x0 >>> (x2 &&& 31)), .int x1] rfl (fun _ => rfl) rfl ?_
      refine dg_s (pc' := 15) [.int (1 : Int32), .int (x0 >>> (x2 &&& 31)), .int x1] rfl (fun _ => rfl) rfl ?_
      refine dg_s (pc' := 16) [.int ((x0 >>> (x2 &&& 31)) &&& (1 : Int32)), .int x1] rfl (fun _ => rfl) rfl ?_
      refine dg_s (pc' := 17) [.int (x1 + ((x0 >>> (x2 &&& 31)) &&& (1 : Int32)))] rfl (fun _ => rfl) rfl ?_
      refine dg_L (pc' := 18) [(1, .int (x1 + ((x0 >>> (x2 &&& 31)) &&& (1 : Int32)))), (0, .int x0), (2, .int x2)] [] rfl (fun _ => rfl) rfl ?_
      refine dg_L (pc' := 21) [(2, .int (x2 + (1 : Int32))), (1, .int (x1 + ((x0 >>> (x2 &&& 31)) &&& (1 : Int32)))), (0, .int x0)] [] rfl (fun _ => rfl) rfl ?_
      refine dw_s (pc' := 4) [] rfl (fun _ => rfl) ?_
      exact dw_j rfl (fun lv1 hv => ih (x1 + ((x0 >>> (x2 &&& 31)) &&& (1 : Int32))) (x2 + (1 : Int32)) lv1 (hv.1 _ rfl) (hv.2.1 _ rfl) (hv.2.2.1 _ rfl))
noncomputable def d_X10_sizeOf (x0 : Int32) (m : dc_M) : Option Int32 :=
  (d_X10_sizeOf_l4 x0 (0 : Int32) (0 : Int32) m)
set_option maxHeartbeats 8000000 in
theorem k_X10_sizeOf {u : Nat} {N : Nat} {Φ : (Option Int32) → Option Value → dc_M → Prop} (x0 : Int32) (m : dc_M) (kR : ∀ (v : Int32), Φ (some (v)) (some (.int v)) m)  {lv : ab_L} (f0 : ab_lk lv 0 = some (.int x0)) : dc_pv u N ab_M_X10_sizeOf 0 lv [] m (Φ (d_X10_sizeOf x0 m)) := by
  refine dc_pv.mono (dc_ok (C := C_X10_sizeOf) (S := S_X10_sizeOf) CO_X10_sizeOf 400 0 [(0, .int x0)] lv [] m (dc_sub_cons f0 (dc_sub_nil)) ?_) (Nat.le_succ N)
  unfold d_X10_sizeOf
  refine dg_s (pc' := 1) [.int (0 : Int32)] rfl (fun _ => rfl) rfl ?_
  refine dg_L (pc' := 2) [(1, .int (0 : Int32)), (0, .int x0)] [] rfl (fun _ => rfl) rfl ?_
  refine dg_s (pc' := 3) [.int (0 : Int32)] rfl (fun _ => rfl) rfl ?_
  refine dw_L (pc' := 4) [(2, .int (0 : Int32)), (1, .int (0 : Int32)), (0, .int x0)] [] rfl (fun _ => rfl) ?_
  exact dw_j rfl (fun lv1 hv => k_X10_sizeOf_l4 (Φ := (fun t => Φ t)) x0 m (fun _a  => kR _a) N  (0 : Int32) (0 : Int32) lv1 (hv.1 _ rfl) (hv.2.1 _ rfl) (hv.2.2.1 _ rfl))
noncomputable def H_X10_sizeOf : dc_H := fun As m k => match As with
  | [.int x0] => (d_X10_sizeOf x0 m).bind (fun q => k (some (.int q)) m)
  | _ => dc_kz
theorem H_X10_sizeOf_ok {u : Nat} : dc_cok u 212 H_X10_sizeOf := fun M' hG N As m k P hz hP => by
  obtain rfl : ab_M_X10_sizeOf = M' := Option.some.inj hG
  unfold H_X10_sizeOf at hP
  split at hP
  · rename_i x0
    exact dc_pv.imp (k_X10_sizeOf (Φ := fun (t : Option Int32) r m' => P (t.bind (fun q => k (some (.int q)) m)) → P (k r m')) x0 m (fun _  h => h) rfl) (fun r m' h => h hP)
  · exact absurd hP hz
def C_X10_leastOf : List (Nat × dc_H) := []
theorem CO_X10_leastOf {u : Nat} : dc_CO u C_X10_leastOf := dc_CO_nil
def S_X10_leastOf : List (Nat × List Nat) := [(2, [0, 1])]
noncomputable def d_X10_leastOf_l2b (x0 : Int32) (x1 : Int32) (m : dc_M) : Option (Int32 ⊕ Int32) :=
  (if ¬ (Int32.toInt ((x0 >>> (x1 &&& 31)) &&& (1 : Int32))) = 0 then some (Sum.inr (x1)) else some (Sum.inl (x1 + (1 : Int32))))
noncomputable def d_X10_leastOf_l2s (x0 : Int32) (m : dc_M) : Int32 → Option (Int32 ⊕ Int32) := fun s => d_X10_leastOf_l2b x0 s m
noncomputable def d_X10_leastOf_l2 (x0 : Int32) (x1 : Int32) (m : dc_M) : Option Int32 := dc_lp (d_X10_leastOf_l2s x0 m) x1
set_option maxHeartbeats 8000000 in
theorem k_X10_leastOf_l2 {u : Nat} {Φ : (Option Int32) → Option Value → dc_M → Prop} (x0 : Int32) (m : dc_M) (kR : ∀ (v : Int32), Φ (some (v)) (some (.int v)) m) : ∀ (N : Nat), ∀ (x1 : Int32) (lv : ab_L), ab_lk lv 0 = some (.int x0) → ab_lk lv 1 = some (.int x1) → dc_pv u N ab_M_X10_leastOf 2 lv [] m (Φ (d_X10_leastOf_l2 x0 x1 m)) := by
  intro N
  induction N with
  | zero => intros; exact dc_pv_zero
  | succ N ih =>
    intro x1 lv f0 f1
    refine dc_ok (C := C_X10_leastOf) (S := S_X10_leastOf) CO_X10_leastOf 400 2 [(0, .int x0), (1, .int x1)] lv [] m (dc_sub_cons f0 (dc_sub_cons f1 (dc_sub_nil))) ?_
    unfold d_X10_leastOf_l2
    rw [dc_lp_eq]
    show (fun t x => dc_lf u N ab_M_X10_leastOf (Φ (Option.bind t (dc_bk (d_X10_leastOf_l2s x0 m)))) x) (d_X10_leastOf_l2b x0 x1 m) _
    dsimp only
    unfold d_X10_leastOf_l2b
    refine dg_s (pc' := 3) [.int x0] rfl (fun _ => rfl) rfl ?_
    refine dg_s (pc' := 4) [.int x1, .int x0] rfl (fun _ => rfl) rfl ?_
    refine dg_s (pc' := 5) [.int (x0 >>> (x1 &&& 31))] rfl (fun _ => rfl) rfl ?_
    refine dg_s (pc' := 6) [.int (1 : Int32), .int (x0 >>> (x1 &&& 31))] rfl (fun _ => rfl) rfl ?_
    refine dg_s (pc' := 7) [.int ((x0 >>> (x1 &&& 31)) &&& (1 : Int32))] rfl (fun _ => rfl) rfl ?_
    refine dw_if (fun t => Φ (Option.bind t (dc_bk (d_X10_leastOf_l2s x0 m)))) (¬ (Int32.toInt ((x0 >>> (x1 &&& 31)) &&& (1 : Int32))) = 0) [] 16 10 rfl (fun _ => rfl) (fun c0 => ?_) (fun c0 => ?_)
    · refine dw_g rfl ?_
      refine dg_s (pc' := 17) [.int x1] rfl (fun _ => rfl) rfl ?_
      exact dw_r (some (.inl (some (.int x1), m))) rfl (fun _ => rfl) (kR _)
    · refine dw_g rfl ?_
      refine dg_L (pc' := 13) [(1, .int (x1 + (1 : Int32))), (0, .int x0)] [] rfl (fun _ => rfl) rfl ?_
      refine dw_s (pc' := 2) [] rfl (fun _ => rfl) ?_
      exact dw_j rfl (fun lv1 hv => ih (x1 + (1 : Int32)) lv1 (hv.1 _ rfl) (hv.2.1 _ rfl))
noncomputable def d_X10_leastOf (x0 : Int32) (m : dc_M) : Option Int32 :=
  (d_X10_leastOf_l2 x0 (0 : Int32) m)
set_option maxHeartbeats 8000000 in
theorem k_X10_leastOf {u : Nat} {N : Nat} {Φ : (Option Int32) → Option Value → dc_M → Prop} (x0 : Int32) (m : dc_M) (kR : ∀ (v : Int32), Φ (some (v)) (some (.int v)) m)  {lv : ab_L} (f0 : ab_lk lv 0 = some (.int x0)) : dc_pv u N ab_M_X10_leastOf 0 lv [] m (Φ (d_X10_leastOf x0 m)) := by
  refine dc_pv.mono (dc_ok (C := C_X10_leastOf) (S := S_X10_leastOf) CO_X10_leastOf 400 0 [(0, .int x0)] lv [] m (dc_sub_cons f0 (dc_sub_nil)) ?_) (Nat.le_succ N)
  unfold d_X10_leastOf
  refine dg_s (pc' := 1) [.int (0 : Int32)] rfl (fun _ => rfl) rfl ?_
  refine dw_L (pc' := 2) [(1, .int (0 : Int32)), (0, .int x0)] [] rfl (fun _ => rfl) ?_
  exact dw_j rfl (fun lv1 hv => k_X10_leastOf_l2 (Φ := (fun t => Φ t)) x0 m (fun _a  => kR _a) N  (0 : Int32) lv1 (hv.1 _ rfl) (hv.2.1 _ rfl))
noncomputable def H_X10_leastOf : dc_H := fun As m k => match As with
  | [.int x0] => (d_X10_leastOf x0 m).bind (fun q => k (some (.int q)) m)
  | _ => dc_kz
theorem H_X10_leastOf_ok {u : Nat} : dc_cok u 213 H_X10_leastOf := fun M' hG N As m k P hz hP => by
  obtain rfl : ab_M_X10_leastOf = M' := Option.some.inj hG
  unfold H_X10_leastOf at hP
  split at hP
  · rename_i x0
    exact dc_pv.imp (k_X10_leastOf (Φ := fun (t : Option Int32) r m' => P (t.bind (fun q => k (some (.int q)) m)) → P (k r m')) x0 m (fun _  h => h) rfl) (fun r m' h => h hP)
  · exact absurd hP hz
def C_X10_layWays : List (Nat × dc_H) := []
theorem CO_X10_layWays {u : Nat} : dc_CO u C_X10_layWays := dc_CO_nil
def S_X10_layWays : List (Nat × List Nat) := [(3, [0, 1, 3, 5, 6]), (30, [0, 1, 3, 5, 6]), (77, [0, 1, 3, 5, 6, 7]), (104, [0, 1, 3, 5, 6, 7, 8]), (123, [0, 1, 3, 5, 6, 7, 9]), (158, [0, 6]), (170, [0, 6, 7]), (182, [0, 6, 7, 8]), (265, [0, 6, 7, 8, 9])]
noncomputable def d_X10_layWays_b265 (x0 : Nat) (x6 : Int32) (x7 : Int32) (x8 : Int32) (x9 : Int64) (s0 : Int32) (m : dc_M) : Option ((Int32 × dc_M) ⊕ ((Int32 × dc_M) ⊕ ((Int32 × dc_M) ⊕ dc_M))) :=
  (if (Int32.toInt s0) = 0 then some (Sum.inl ((x8 + (1 : Int32)), (dc_wl m (x0 + 28) (Int32.toNatClampNeg (((16 : Int32) * x7) + x8)) (m.2.1 (x0 + 28) (Int32.toNatClampNeg (((16 : Int32) * x7) + x8)))))) else (if (Int32.toInt (lg_cmp x9 (m.2.1 (x0 + 28) (Int32.toNatClampNeg (((16 : Int32) * x7) + x8))))) ≤ 0 then some (Sum.inl ((x8 + (1 : Int32)), (dc_wl m (x0 + 28) (Int32.toNatClampNeg (((16 : Int32) * x7) + x8)) (m.2.1 (x0 + 28) (Int32.toNatClampNeg (((16 : Int32) * x7) + x8)))))) else some (Sum.inl ((x8 + (1 : Int32)), (dc_wl m (x0 + 28) (Int32.toNatClampNeg (((16 : Int32) * x7) + x8)) x9)))))
set_option maxHeartbeats 8000000 in
theorem k_X10_layWays_b265 {u : Nat} {N : Nat} {Φ : (Option ((Int32 × dc_M) ⊕ ((Int32 × dc_M) ⊕ ((Int32 × dc_M) ⊕ dc_M)))) → Option Value → dc_M → Prop} (x0 : Nat) (x6 : Int32) (x7 : Int32) (x8 : Int32) (x9 : Int64) (s0 : Int32) (m : dc_M) (kR : ∀  (m : dc_M), Φ (some (Sum.inr (Sum.inr (Sum.inr (m))))) (none) m) (k182 : ∀ (x8 : Int32) (m : dc_M) (lv : ab_L), ab_lk lv 0 = some (.ref x0) → ab_lk lv 6 = some (.int x6) → ab_lk lv 7 = some (.int x7) → ab_lk lv 8 = some (.int x8) →  dc_pv u N ab_M_X10_layWays 182 lv [] m (Φ (some (Sum.inl (x8, m))))) (k170 : ∀ (x7 : Int32) (m : dc_M) (lv : ab_L), ab_lk lv 0 = some (.ref x0) → ab_lk lv 6 = some (.int x6) → ab_lk lv 7 = some (.int x7) →  dc_pv u N ab_M_X10_layWays 170 lv [] m (Φ (some (Sum.inr (Sum.inl (x7, m)))))) (k158 : ∀ (x6 : Int32) (m : dc_M) (lv : ab_L), ab_lk lv 0 = some (.ref x0) → ab_lk lv 6 = some (.int x6) →  dc_pv u N ab_M_X10_layWays 158 lv [] m (Φ (some (Sum.inr (Sum.inr (Sum.inl (x6, m))))))) {lv : ab_L} (f0 : ab_lk lv 0 = some (.ref x0)) (f6 : ab_lk lv 6 = some (.int x6)) (f7 : ab_lk lv 7 = some (.int x7)) (f8 : ab_lk lv 8 = some (.int x8)) (f9 : ab_lk lv 9 = some (.long x9)) : dc_pv u N ab_M_X10_layWays 265 lv [.int s0] m (Φ (d_X10_layWays_b265 x0 x6 x7 x8 x9 s0 m)) := by
  refine dc_pv.mono (dc_ok (C := C_X10_layWays) (S := S_X10_layWays) CO_X10_layWays 400 265 [(0, .ref x0), (6, .int x6), (7, .int x7), (8, .int x8), (9, .long x9)] lv [.int s0] m (dc_sub_cons f0 (dc_sub_cons f6 (dc_sub_cons f7 (dc_sub_cons f8 (dc_sub_cons f9 (dc_sub_nil)))))) ?_) (Nat.le_succ N)
  unfold d_X10_layWays_b265
  refine dg_L (pc' := 267) [(11, .int s0), (0, .ref x0), (6, .int x6), (7, .int x7), (8, .int x8), (9, .long x9)] [] rfl (fun _ => rfl) rfl ?_
  refine dg_s (pc' := 268) [.ref x0] rfl (fun _ => rfl) rfl ?_
  refine dg_s (pc' := 271) [.ref (x0 + 28)] rfl (fun _ => rfl) rfl ?_
  refine dg_s (pc' := 273) [.int (16 : Int32), .ref (x0 + 28)] rfl (fun _ => rfl) rfl ?_
  refine dg_s (pc' := 275) [.int x7, .int (16 : Int32), .ref (x0 + 28)] rfl (fun _ => rfl) rfl ?_
  refine dg_s (pc' := 276) [.int ((16 : Int32) * x7), .ref (x0 + 28)] rfl (fun _ => rfl) rfl ?_
  refine dg_s (pc' := 278) [.int x8, .int ((16 : Int32) * x7), .ref (x0 + 28)] rfl (fun _ => rfl) rfl ?_
  refine dg_s (pc' := 279) [.int (((16 : Int32) * x7) + x8), .ref (x0 + 28)] rfl (fun _ => rfl) rfl ?_
  refine dg_s (pc' := 281) [.int s0, .int (((16 : Int32) * x7) + x8), .ref (x0 + 28)] rfl (fun _ => rfl) rfl ?_
  refine dw_if (fun t => Φ t) ((Int32.toInt s0) = 0) [.int (((16 : Int32) * x7) + x8), .ref (x0 + 28)] 308 284 rfl (fun _ => rfl) (fun c0 => ?_) (fun c0 => ?_)
  · refine dw_g rfl ?_
    refine dg_s (pc' := 309) [.ref x0, .int (((16 : Int32) * x7) + x8), .ref (x0 + 28)] rfl (fun _ => rfl) rfl ?_
    refine dg_s (pc' := 312) [.ref (x0 + 28), .int (((16 : Int32) * x7) + x8), .ref (x0 + 28)] rfl (fun _ => rfl) rfl ?_
    refine dg_s (pc' := 314) [.int (16 : Int32), .ref (x0 + 28), .int (((16 : Int32) * x7) + x8), .ref (x0 + 28)] rfl (fun _ => rfl) rfl ?_
    refine dg_s (pc' := 316) [.int x7, .int (16 : Int32), .ref (x0 + 28), .int (((16 : Int32) * x7) + x8), .ref (x0 + 28)] rfl (fun _ => rfl) rfl ?_
    refine dg_s (pc' := 317) [.int ((16 : Int32) * x7), .ref (x0 + 28), .int (((16 : Int32) * x7) + x8), .ref (x0 + 28)] rfl (fun _ => rfl) rfl ?_
    refine dg_s (pc' := 319) [.int x8, .int ((16 : Int32) * x7), .ref (x0 + 28), .int (((16 : Int32) * x7) + x8), .ref (x0 + 28)] rfl (fun _ => rfl) rfl ?_
    refine dg_s (pc' := 320) [.int (((16 : Int32) * x7) + x8), .ref (x0 + 28), .int (((16 : Int32) * x7) + x8), .ref (x0 + 28)] rfl (fun _ => rfl) rfl ?_
    refine dg_s (pc' := 321) [.long (m.2.1 (x0 + 28) (Int32.toNatClampNeg (((16 : Int32) * x7) + x8))), .int (((16 : Int32) * x7) + x8), .ref (x0 + 28)] rfl (fun _ => rfl) rfl ?_
    refine dg_m (pc' := 322) (dc_wl m (x0 + 28) (Int32.toNatClampNeg (((16 : Int32) * x7) + x8)) (m.2.1 (x0 + 28) (Int32.toNatClampNeg (((16 : Int32) * x7) + x8)))) [] rfl (fun _ => rfl) rfl ?_
    refine dg_L (pc' := 325) [(8, .int (x8 + (1 : Int32))), (11, .int s0), (0, .ref x0), (6, .int x6), (7, .int x7), (9, .long x9)] [] rfl (fun _ => rfl) rfl ?_
    refine dw_s (pc' := 182) [] rfl (fun _ => rfl) ?_
    exact dw_j rfl (fun lv1 hv => k182 (x8 + (1 : Int32)) (dc_wl m (x0 + 28) (Int32.toNatClampNeg (((16 : Int32) * x7) + x8)) (m.2.1 (x0 + 28) (Int32.toNatClampNeg (((16 : Int32) * x7) + x8)))) lv1 (hv.1 _ rfl) (hv.2.1 _ rfl) (hv.2.2.1 _ rfl) (hv.2.2.2.1 _ rfl))
  · refine dw_g rfl ?_
    refine dg_s (pc' := 286) [.long x9, .int (((16 : Int32) * x7) + x8), .ref (x0 + 28)] rfl (fun _ => rfl) rfl ?_
    refine dg_s (pc' := 287) [.ref x0, .long x9, .int (((16 : Int32) * x7) + x8), .ref (x0 + 28)] rfl (fun _ => rfl) rfl ?_
    refine dg_s (pc' := 290) [.ref (x0 + 28), .long x9, .int (((16 : Int32) * x7) + x8), .ref (x0 + 28)] rfl (fun _ => rfl) rfl ?_
    refine dg_s (pc' := 292) [.int (16 : Int32), .ref (x0 + 28), .long x9, .int (((16 : Int32) * x7) + x8), .ref (x0 + 28)] rfl (fun _ => rfl) rfl ?_
    refine dg_s (pc' := 294) [.int x7, .int (16 : Int32), .ref (x0 + 28), .long x9, .int (((16 : Int32) * x7) + x8), .ref (x0 + 28)] rfl (fun _ => rfl) rfl ?_
    refine dg_s (pc' := 295) [.int ((16 : Int32) * x7), .ref (x0 + 28), .long x9, .int (((16 : Int32) * x7) + x8), .ref (x0 + 28)] rfl (fun _ => rfl) rfl ?_
    refine dg_s (pc' := 297) [.int x8, .int ((16 : Int32) * x7), .ref (x0 + 28), .long x9, .int (((16 : Int32) * x7) + x8), .ref (x0 + 28)] rfl (fun _ => rfl) rfl ?_
    refine dg_s (pc' := 298) [.int (((16 : Int32) * x7) + x8), .ref (x0 + 28), .long x9, .int (((16 : Int32) * x7) + x8), .ref (x0 + 28)] rfl (fun _ => rfl) rfl ?_
    refine dg_s (pc' := 299) [.long (m.2.1 (x0 + 28) (Int32.toNatClampNeg (((16 : Int32) * x7) + x8))), .long x9, .int (((16 : Int32) * x7) + x8), .ref (x0 + 28)] rfl (fun _ => rfl) rfl ?_
    refine dg_s (pc' := 300) [.int (lg_cmp x9 (m.2.1 (x0 + 28) (Int32.toNatClampNeg (((16 : Int32) * x7) + x8)))), .int (((16 : Int32) * x7) + x8), .ref (x0 + 28)] rfl (fun _ => rfl) rfl ?_
    refine dw_if (fun t => Φ t) ((Int32.toInt (lg_cmp x9 (m.2.1 (x0 + 28) (Int32.toNatClampNeg (((16 : Int32) * x7) + x8))))) ≤ 0) [.int (((16 : Int32) * x7) + x8), .ref (x0 + 28)] 308 303 rfl (fun _ => rfl) (fun c1 => ?_) (fun c1 => ?_)
    · refine dw_g rfl ?_
      refine dg_s (pc' := 309) [.ref x0, .int (((16 : Int32) * x7) + x8), .ref (x0 + 28)] rfl (fun _ => rfl) rfl ?_
      refine dg_s (pc' := 312) [.ref (x0 + 28), .int (((16 : Int32) * x7) + x8), .ref (x0 + 28)] rfl (fun _ => rfl) rfl ?_
      refine dg_s (pc' := 314) [.int (16 : Int32), .ref (x0 + 28), .int (((16 : Int32) * x7) + x8), .ref (x0 + 28)] rfl (fun _ => rfl) rfl ?_
      refine dg_s (pc' := 316) [.int x7, .int (16 : Int32), .ref (x0 + 28), .int (((16 : Int32) * x7) + x8), .ref (x0 + 28)] rfl (fun _ => rfl) rfl ?_
      refine dg_s (pc' := 317) [.int ((16 : Int32) * x7), .ref (x0 + 28), .int (((16 : Int32) * x7) + x8), .ref (x0 + 28)] rfl (fun _ => rfl) rfl ?_
      refine dg_s (pc' := 319) [.int x8, .int ((16 : Int32) * x7), .ref (x0 + 28), .int (((16 : Int32) * x7) + x8), .ref (x0 + 28)] rfl (fun _ => rfl) rfl ?_
      refine dg_s (pc' := 320) [.int (((16 : Int32) * x7) + x8), .ref (x0 + 28), .int (((16 : Int32) * x7) + x8), .ref (x0 + 28)] rfl (fun _ => rfl) rfl ?_
      refine dg_s (pc' := 321) [.long (m.2.1 (x0 + 28) (Int32.toNatClampNeg (((16 : Int32) * x7) + x8))), .int (((16 : Int32) * x7) + x8), .ref (x0 + 28)] rfl (fun _ => rfl) rfl ?_
      refine dg_m (pc' := 322) (dc_wl m (x0 + 28) (Int32.toNatClampNeg (((16 : Int32) * x7) + x8)) (m.2.1 (x0 + 28) (Int32.toNatClampNeg (((16 : Int32) * x7) + x8)))) [] rfl (fun _ => rfl) rfl ?_
      refine dg_L (pc' := 325) [(8, .int (x8 + (1 : Int32))), (11, .int s0), (0, .ref x0), (6, .int x6), (7, .int x7), (9, .long x9)] [] rfl (fun _ => rfl) rfl ?_
      refine dw_s (pc' := 182) [] rfl (fun _ => rfl) ?_
      exact dw_j rfl (fun lv1 hv => k182 (x8 + (1 : Int32)) (dc_wl m (x0 + 28) (Int32.toNatClampNeg (((16 : Int32) * x7) + x8)) (m.2.1 (x0 + 28) (Int32.toNatClampNeg (((16 : Int32) * x7) + x8)))) lv1 (hv.1 _ rfl) (hv.2.1 _ rfl) (hv.2.2.1 _ rfl) (hv.2.2.2.1 _ rfl))
    · refine dw_g rfl ?_
      refine dg_s (pc' := 305) [.long x9, .int (((16 : Int32) * x7) + x8), .ref (x0 + 28)] rfl (fun _ => rfl) rfl ?_
      refine dg_s (pc' := 321) [.long x9, .int (((16 : Int32) * x7) + x8), .ref (x0 + 28)] rfl (fun _ => rfl) rfl ?_
      refine dg_m (pc' := 322) (dc_wl m (x0 + 28) (Int32.toNatClampNeg (((16 : Int32) * x7) + x8)) x9) [] rfl (fun _ => rfl) rfl ?_
      refine dg_L (pc' := 325) [(8, .int (x8 + (1 : Int32))), (11, .int s0), (0, .ref x0), (6, .int x6), (7, .int x7), (9, .long x9)] [] rfl (fun _ => rfl) rfl ?_
      refine dw_s (pc' := 182) [] rfl (fun _ => rfl) ?_
      exact dw_j rfl (fun lv1 hv => k182 (x8 + (1 : Int32)) (dc_wl m (x0 + 28) (Int32.toNatClampNeg (((16 : Int32) * x7) + x8)) x9) lv1 (hv.1 _ rfl) (hv.2.1 _ rfl) (hv.2.2.1 _ rfl) (hv.2.2.2.1 _ rfl))
noncomputable def d_X10_layWays_l182b (x0 : Nat) (x6 : Int32) (x7 : Int32) (x8 : Int32) (m : dc_M) : Option ((Int32 × dc_M) ⊕ ((Int32 × dc_M) ⊕ ((Int32 × dc_M) ⊕ dc_M))) :=
  (if (Int32.toInt (m.1 x0 3)) ≤ (Int32.toInt x8) then some (Sum.inr (Sum.inl ((x7 + (1 : Int32)), m))) else (if (Int32.toInt (lg_cmp (m.2.1 (x0 + 28) (Int32.toNatClampNeg (((16 : Int32) * x7) + x6))) (-500000000000 : Int64))) ≤ 0 then (d_X10_layWays_b265 x0 x6 x7 x8 ((m.2.1 (x0 + 28) (Int32.toNatClampNeg (((16 : Int32) * x7) + x6))) + (m.2.1 (x0 + 28) (Int32.toNatClampNeg (((16 : Int32) * x6) + x8)))) (0 : Int32) m) else (if (Int32.toInt (lg_cmp (m.2.1 (x0 + 28) (Int32.toNatClampNeg (((16 : Int32) * x6) + x8))) (-500000000000 : Int64))) ≤ 0 then (d_X10_layWays_b265 x0 x6 x7 x8 ((m.2.1 (x0 + 28) (Int32.toNatClampNeg (((16 : Int32) * x7) + x6))) + (m.2.1 (x0 + 28) (Int32.toNatClampNeg (((16 : Int32) * x6) + x8)))) (0 : Int32) m) else (d_X10_layWays_b265 x0 x6 x7 x8 ((m.2.1 (x0 + 28) (Int32.toNatClampNeg (((16 : Int32) * x7) + x6))) + (m.2.1 (x0 + 28) (Int32.toNatClampNeg (((16 : Int32) * x6) + x8)))) (1 : Int32) m))))
noncomputable def d_X10_layWays_l182s (x0 : Nat) (x6 : Int32) (x7 : Int32) : (Int32 × dc_M) → Option ((Int32 × dc_M) ⊕ ((Int32 × dc_M) ⊕ ((Int32 × dc_M) ⊕ dc_M))) := fun s => d_X10_layWays_l182b x0 x6 x7 s.1 s.2
noncomputable def d_X10_layWays_l182 (x0 : Nat) (x6 : Int32) (x7 : Int32) (x8 : Int32) (m : dc_M) : Option ((Int32 × dc_M) ⊕ ((Int32 × dc_M) ⊕ dc_M)) := dc_lp (d_X10_layWays_l182s x0 x6 x7) (x8, m)
set_option maxHeartbeats 8000000 in
theorem k_X10_layWays_l182 {u : Nat} {Φ : (Option ((Int32 × dc_M) ⊕ ((Int32 × dc_M) ⊕ dc_M))) → Option Value → dc_M → Prop} (x0 : Nat) (x6 : Int32) (x7 : Int32) (kR : ∀  (m : dc_M), Φ (some (Sum.inr (Sum.inr (m)))) (none) m) : ∀ (N : Nat), (∀ (x7 : Int32) (m : dc_M) (lv : ab_L), ab_lk lv 0 = some (.ref x0) → ab_lk lv 6 = some (.int x6) → ab_lk lv 7 = some (.int x7) →  dc_pv u N ab_M_X10_layWays 170 lv [] m (Φ (some (Sum.inl (x7, m))))) → (∀ (x6 : Int32) (m : dc_M) (lv : ab_L), ab_lk lv 0 = some (.ref x0) → ab_lk lv 6 = some (.int x6) →  dc_pv u N ab_M_X10_layWays 158 lv [] m (Φ (some (Sum.inr (Sum.inl (x6, m)))))) → ∀ (x8 : Int32) (m : dc_M) (lv : ab_L), ab_lk lv 0 = some (.ref x0) → ab_lk lv 6 = some (.int x6) → ab_lk lv 7 = some (.int x7) → ab_lk lv 8 = some (.int x8) → dc_pv u N ab_M_X10_layWays 182 lv [] m (Φ (d_X10_layWays_l182 x0 x6 x7 x8 m)) := by
  intro N
  induction N with
  | zero => intros; exact dc_pv_zero
  | succ N ih =>
    intro k170 k158 x8 m lv f0 f6 f7 f8
    have k170 := fun a0 a1 a2 a3 a4 a5 => (k170 a0 a1 a2 a3 a4 a5).mono (Nat.le_succ N)
    have k158 := fun a0 a1 a2 a3 a4 => (k158 a0 a1 a2 a3 a4).mono (Nat.le_succ N)
    have ih := ih k170 k158
    refine dc_ok (C := C_X10_layWays) (S := S_X10_layWays) CO_X10_layWays 400 182 [(0, .ref x0), (6, .int x6), (7, .int x7), (8, .int x8)] lv [] m (dc_sub_cons f0 (dc_sub_cons f6 (dc_sub_cons f7 (dc_sub_cons f8 (dc_sub_nil))))) ?_
    unfold d_X10_layWays_l182
    rw [dc_lp_eq]
    show (fun t x => dc_lf u N ab_M_X10_layWays (Φ (Option.bind t (dc_bk (d_X10_layWays_l182s x0 x6 x7)))) x) (d_X10_layWays_l182b x0 x6 x7 x8 m) _
    dsimp only
    unfold d_X10_layWays_l182b
    refine dg_s (pc' := 184) [.int x8] rfl (fun _ => rfl) rfl ?_
    refine dg_s (pc' := 185) [.ref x0, .int x8] rfl (fun _ => rfl) rfl ?_
    refine dg_s (pc' := 188) [.int (m.1 x0 3), .int x8] rfl (fun _ => rfl) rfl ?_
    refine dw_if (fun t => Φ (Option.bind t (dc_bk (d_X10_layWays_l182s x0 x6 x7)))) ((Int32.toInt (m.1 x0 3)) ≤ (Int32.toInt x8)) [] 328 191 rfl (fun _ => rfl) (fun c0 => ?_) (fun c0 => ?_)
    · refine dw_g rfl ?_
      refine dg_L (pc' := 331) [(7, .int (x7 + (1 : Int32))), (0, .ref x0), (6, .int x6), (8, .int x8)] [] rfl (fun _ => rfl) rfl ?_
      refine dw_s (pc' := 170) [] rfl (fun _ => rfl) ?_
      exact dw_j rfl (fun lv1 hv => k170 (x7 + (1 : Int32)) m lv1 (hv.1 _ rfl) (hv.2.1 _ rfl) (hv.2.2.1 _ rfl))
    · refine dw_g rfl ?_
      refine dg_s (pc' := 192) [.ref x0] rfl (fun _ => rfl) rfl ?_
      refine dg_s (pc' := 195) [.ref (x0 + 28)] rfl (fun _ => rfl) rfl ?_
      refine dg_s (pc' := 197) [.int (16 : Int32), .ref (x0 + 28)] rfl (fun _ => rfl) rfl ?_
      refine dg_s (pc' := 199) [.int x7, .int (16 : Int32), .ref (x0 + 28)] rfl (fun _ => rfl) rfl ?_
      refine dg_s (pc' := 200) [.int ((16 : Int32) * x7), .ref (x0 + 28)] rfl (fun _ => rfl) rfl ?_
      refine dg_s (pc' := 202) [.int x6, .int ((16 : Int32) * x7), .ref (x0 + 28)] rfl (fun _ => rfl) rfl ?_
      refine dg_s (pc' := 203) [.int (((16 : Int32) * x7) + x6), .ref (x0 + 28)] rfl (fun _ => rfl) rfl ?_
      refine dg_s (pc' := 204) [.long (m.2.1 (x0 + 28) (Int32.toNatClampNeg (((16 : Int32) * x7) + x6)))] rfl (fun _ => rfl) rfl ?_
      refine dg_s (pc' := 205) [.ref x0, .long (m.2.1 (x0 + 28) (Int32.toNatClampNeg (((16 : Int32) * x7) + x6)))] rfl (fun _ => rfl) rfl ?_
      refine dg_s (pc' := 208) [.ref (x0 + 28), .long (m.2.1 (x0 + 28) (Int32.toNatClampNeg (((16 : Int32) * x7) + x6)))] rfl (fun _ => rfl) rfl ?_
      refine dg_s (pc' := 210) [.int (16 : Int32), .ref (x0 + 28), .long (m.2.1 (x0 + 28) (Int32.toNatClampNeg (((16 : Int32) * x7) + x6)))] rfl (fun _ => rfl) rfl ?_
      refine dg_s (pc' := 212) [.int x6, .int (16 : Int32), .ref (x0 + 28), .long (m.2.1 (x0 + 28) (Int32.toNatClampNeg (((16 : Int32) * x7) + x6)))] rfl (fun _ => rfl) rfl ?_
      refine dg_s (pc' := 213) [.int ((16 : Int32) * x6), .ref (x0 + 28), .long (m.2.1 (x0 + 28) (Int32.toNatClampNeg (((16 : Int32) * x7) + x6)))] rfl (fun _ => rfl) rfl ?_
      refine dg_s (pc' := 215) [.int x8, .int ((16 : Int32) * x6), .ref (x0 + 28), .long (m.2.1 (x0 + 28) (Int32.toNatClampNeg (((16 : Int32) * x7) + x6)))] rfl (fun _ => rfl) rfl ?_
      refine dg_s (pc' := 216) [.int (((16 : Int32) * x6) + x8), .ref (x0 + 28), .long (m.2.1 (x0 + 28) (Int32.toNatClampNeg (((16 : Int32) * x7) + x6)))] rfl (fun _ => rfl) rfl ?_
      refine dg_s (pc' := 217) [.long (m.2.1 (x0 + 28) (Int32.toNatClampNeg (((16 : Int32) * x6) + x8))), .long (m.2.1 (x0 + 28) (Int32.toNatClampNeg (((16 : Int32) * x7) + x6)))] rfl (fun _ => rfl) rfl ?_
      refine dg_s (pc' := 218) [.long ((m.2.1 (x0 + 28) (Int32.toNatClampNeg (((16 : Int32) * x7) + x6))) + (m.2.1 (x0 + 28) (Int32.toNatClampNeg (((16 : Int32) * x6) + x8))))] rfl (fun _ => rfl) rfl ?_
      refine dg_L (pc' := 220) [(9, .long ((m.2.1 (x0 + 28) (Int32.toNatClampNeg (((16 : Int32) * x7) + x6))) + (m.2.1 (x0 + 28) (Int32.toNatClampNeg (((16 : Int32) * x6) + x8))))), (0, .ref x0), (6, .int x6), (7, .int x7), (8, .int x8)] [] rfl (fun _ => rfl) rfl ?_
      refine dg_s (pc' := 221) [.ref x0] rfl (fun _ => rfl) rfl ?_
      refine dg_s (pc' := 224) [.ref (x0 + 28)] rfl (fun _ => rfl) rfl ?_
      refine dg_s (pc' := 226) [.int (16 : Int32), .ref (x0 + 28)] rfl (fun _ => rfl) rfl ?_
      refine dg_s (pc' := 228) [.int x7, .int (16 : Int32), .ref (x0 + 28)] rfl (fun _ => rfl) rfl ?_
      refine dg_s (pc' := 229) [.int ((16 : Int32) * x7), .ref (x0 + 28)] rfl (fun _ => rfl) rfl ?_
      refine dg_s (pc' := 231) [.int x6, .int ((16 : Int32) * x7), .ref (x0 + 28)] rfl (fun _ => rfl) rfl ?_
      refine dg_s (pc' := 232) [.int (((16 : Int32) * x7) + x6), .ref (x0 + 28)] rfl (fun _ => rfl) rfl ?_
      refine dg_s (pc' := 233) [.long (m.2.1 (x0 + 28) (Int32.toNatClampNeg (((16 : Int32) * x7) + x6)))] rfl (fun _ => rfl) rfl ?_
      refine dg_s (pc' := 236) [.long (-500000000000 : Int64), .long (m.2.1 (x0 + 28) (Int32.toNatClampNeg (((16 : Int32) * x7) + x6)))] rfl (fun _ => rfl) rfl ?_
      refine dg_s (pc' := 237) [.int (lg_cmp (m.2.1 (x0 + 28) (Int32.toNatClampNeg (((16 : Int32) * x7) + x6))) (-500000000000 : Int64))] rfl (fun _ => rfl) rfl ?_
      refine dw_if (fun t => Φ (Option.bind t (dc_bk (d_X10_layWays_l182s x0 x6 x7)))) ((Int32.toInt (lg_cmp (m.2.1 (x0 + 28) (Int32.toNatClampNeg (((16 : Int32) * x7) + x6))) (-500000000000 : Int64))) ≤ 0) [] 264 240 rfl (fun _ => rfl) (fun c1 => ?_) (fun c1 => ?_)
      · refine dw_g rfl ?_
        refine dw_s (pc' := 265) [.int (0 : Int32)] rfl (fun _ => rfl) ?_
        exact dw_j rfl (fun lv1 hv => k_X10_layWays_b265 (Φ := (fun t => Φ (Option.bind t (dc_bk (d_X10_layWays_l182s x0 x6 x7))))) x0 x6 x7 x8 ((m.2.1 (x0 + 28) (Int32.toNatClampNeg (((16 : Int32) * x7) + x6))) + (m.2.1 (x0 + 28) (Int32.toNatClampNeg (((16 : Int32) * x6) + x8)))) (0 : Int32) m (fun _b => kR _b) ih k170 k158 (hv.1 _ rfl) (hv.2.1 _ rfl) (hv.2.2.1 _ rfl) (hv.2.2.2.1 _ rfl) (hv.2.2.2.2.1 _ rfl))
      · refine dw_g rfl ?_
        refine dg_s (pc' := 241) [.ref x0] rfl (fun _ => rfl) rfl ?_
        refine dg_s (pc' := 244) [.ref (x0 + 28)] rfl (fun _ => rfl) rfl ?_
        refine dg_s (pc' := 246) [.int (16 : Int32), .ref (x0 + 28)] rfl (fun _ => rfl) rfl ?_
        refine dg_s (pc' := 248) [.int x6, .int (16 : Int32), .ref (x0 + 28)] rfl (fun _ => rfl) rfl ?_
        refine dg_s (pc' := 249) [.int ((16 : Int32) * x6), .ref (x0 + 28)] rfl (fun _ => rfl) rfl ?_
        refine dg_s (pc' := 251) [.int x8, .int ((16 : Int32) * x6), .ref (x0 + 28)] rfl (fun _ => rfl) rfl ?_
        refine dg_s (pc' := 252) [.int (((16 : Int32) * x6) + x8), .ref (x0 + 28)] rfl (fun _ => rfl) rfl ?_
        refine dg_s (pc' := 253) [.long (m.2.1 (x0 + 28) (Int32.toNatClampNeg (((16 : Int32) * x6) + x8)))] rfl (fun _ => rfl) rfl ?_
        refine dg_s (pc' := 256) [.long (-500000000000 : Int64), .long (m.2.1 (x0 + 28) (Int32.toNatClampNeg (((16 : Int32) * x6) + x8)))] rfl (fun _ => rfl) rfl ?_
        refine dg_s (pc' := 257) [.int (lg_cmp (m.2.1 (x0 + 28) (Int32.toNatClampNeg (((16 : Int32) * x6) + x8))) (-500000000000 : Int64))] rfl (fun _ => rfl) rfl ?_
        refine dw_if (fun t => Φ (Option.bind t (dc_bk (d_X10_layWays_l182s x0 x6 x7)))) ((Int32.toInt (lg_cmp (m.2.1 (x0 + 28) (Int32.toNatClampNeg (((16 : Int32) * x6) + x8))) (-500000000000 : Int64))) ≤ 0) [] 264 260 rfl (fun _ => rfl) (fun c2 => ?_) (fun c2 => ?_)
        · refine dw_g rfl ?_
          refine dw_s (pc' := 265) [.int (0 : Int32)] rfl (fun _ => rfl) ?_
          exact dw_j rfl (fun lv1 hv => k_X10_layWays_b265 (Φ := (fun t => Φ (Option.bind t (dc_bk (d_X10_layWays_l182s x0 x6 x7))))) x0 x6 x7 x8 ((m.2.1 (x0 + 28) (Int32.toNatClampNeg (((16 : Int32) * x7) + x6))) + (m.2.1 (x0 + 28) (Int32.toNatClampNeg (((16 : Int32) * x6) + x8)))) (0 : Int32) m (fun _b => kR _b) ih k170 k158 (hv.1 _ rfl) (hv.2.1 _ rfl) (hv.2.2.1 _ rfl) (hv.2.2.2.1 _ rfl) (hv.2.2.2.2.1 _ rfl))
        · refine dw_g rfl ?_
          refine dg_s (pc' := 261) [.int (1 : Int32)] rfl (fun _ => rfl) rfl ?_
          refine dw_s (pc' := 265) [.int (1 : Int32)] rfl (fun _ => rfl) ?_
          exact dw_j rfl (fun lv1 hv => k_X10_layWays_b265 (Φ := (fun t => Φ (Option.bind t (dc_bk (d_X10_layWays_l182s x0 x6 x7))))) x0 x6 x7 x8 ((m.2.1 (x0 + 28) (Int32.toNatClampNeg (((16 : Int32) * x7) + x6))) + (m.2.1 (x0 + 28) (Int32.toNatClampNeg (((16 : Int32) * x6) + x8)))) (1 : Int32) m (fun _b => kR _b) ih k170 k158 (hv.1 _ rfl) (hv.2.1 _ rfl) (hv.2.2.1 _ rfl) (hv.2.2.2.1 _ rfl) (hv.2.2.2.2.1 _ rfl))
noncomputable def d_X10_layWays_l170b (x0 : Nat) (x6 : Int32) (x7 : Int32) (m : dc_M) : Option ((Int32 × dc_M) ⊕ ((Int32 × dc_M) ⊕ dc_M)) :=
  (if (Int32.toInt (m.1 x0 3)) ≤ (Int32.toInt x7) then some (Sum.inr (Sum.inl ((x6 + (1 : Int32)), m))) else (d_X10_layWays_l182 x0 x6 x7 (0 : Int32) m))
noncomputable def d_X10_layWays_l170s (x0 : Nat) (x6 : Int32) : (Int32 × dc_M) → Option ((Int32 × dc_M) ⊕ ((Int32 × dc_M) ⊕ dc_M)) := fun s => d_X10_layWays_l170b x0 x6 s.1 s.2
noncomputable def d_X10_layWays_l170 (x0 : Nat) (x6 : Int32) (x7 : Int32) (m : dc_M) : Option ((Int32 × dc_M) ⊕ dc_M) := dc_lp (d_X10_layWays_l170s x0 x6) (x7, m)
set_option maxHeartbeats 8000000 in
theorem k_X10_layWays_l170 {u : Nat} {Φ : (Option ((Int32 × dc_M) ⊕ dc_M)) → Option Value → dc_M → Prop} (x0 : Nat) (x6 : Int32) (kR : ∀  (m : dc_M), Φ (some (Sum.inr (m))) (none) m) : ∀ (N : Nat), (∀ (x6 : Int32) (m : dc_M) (lv : ab_L), ab_lk lv 0 = some (.ref x0) → ab_lk lv 6 = some (.int x6) →  dc_pv u N ab_M_X10_layWays 158 lv [] m (Φ (some (Sum.inl (x6, m))))) → ∀ (x7 : Int32) (m : dc_M) (lv : ab_L), ab_lk lv 0 = some (.ref x0) → ab_lk lv 6 = some (.int x6) → ab_lk lv 7 = some (.int x7) → dc_pv u N ab_M_X10_layWays 170 lv [] m (Φ (d_X10_layWays_l170 x0 x6 x7 m)) := by
  intro N
  induction N with
  | zero => intros; exact dc_pv_zero
  | succ N ih =>
    intro k158 x7 m lv f0 f6 f7
    have k158 := fun a0 a1 a2 a3 a4 => (k158 a0 a1 a2 a3 a4).mono (Nat.le_succ N)
    have ih := ih k158
    refine dc_ok (C := C_X10_layWays) (S := S_X10_layWays) CO_X10_layWays 400 170 [(0, .ref x0), (6, .int x6), (7, .int x7)] lv [] m (dc_sub_cons f0 (dc_sub_cons f6 (dc_sub_cons f7 (dc_sub_nil)))) ?_
    unfold d_X10_layWays_l170
    rw [dc_lp_eq]
    show (fun t x => dc_lf u N ab_M_X10_layWays (Φ (Option.bind t (dc_bk (d_X10_layWays_l170s x0 x6)))) x) (d_X10_layWays_l170b x0 x6 x7 m) _
    dsimp only
    unfold d_X10_layWays_l170b
    refine dg_s (pc' := 172) [.int x7] rfl (fun _ => rfl) rfl ?_
    refine dg_s (pc' := 173) [.ref x0, .int x7] rfl (fun _ => rfl) rfl ?_
    refine dg_s (pc' := 176) [.int (m.1 x0 3), .int x7] rfl (fun _ => rfl) rfl ?_
    refine dw_if (fun t => Φ (Option.bind t (dc_bk (d_X10_layWays_l170s x0 x6)))) ((Int32.toInt (m.1 x0 3)) ≤ (Int32.toInt x7)) [] 334 179 rfl (fun _ => rfl) (fun c0 => ?_) (fun c0 => ?_)
    · refine dw_g rfl ?_
      refine dg_L (pc' := 337) [(6, .int (x6 + (1 : Int32))), (0, .ref x0), (7, .int x7)] [] rfl (fun _ => rfl) rfl ?_
      refine dw_s (pc' := 158) [] rfl (fun _ => rfl) ?_
      exact dw_j rfl (fun lv1 hv => k158 (x6 + (1 : Int32)) m lv1 (hv.1 _ rfl) (hv.2.1 _ rfl))
    · refine dw_g rfl ?_
      refine dg_s (pc' := 180) [.int (0 : Int32)] rfl (fun _ => rfl) rfl ?_
      refine dw_L (pc' := 182) [(8, .int (0 : Int32)), (0, .ref x0), (6, .int x6), (7, .int x7)] [] rfl (fun _ => rfl) ?_
      exact dw_j rfl (fun lv1 hv => k_X10_layWays_l182 (Φ := (fun t => Φ (Option.bind t (dc_bk (d_X10_layWays_l170s x0 x6))))) x0 x6 x7 (fun _b => kR _b) N ih k158 (0 : Int32) m lv1 (hv.1 _ rfl) (hv.2.1 _ rfl) (hv.2.2.1 _ rfl) (hv.2.2.2.1 _ rfl))
noncomputable def d_X10_layWays_l158b (x0 : Nat) (x6 : Int32) (m : dc_M) : Option ((Int32 × dc_M) ⊕ dc_M) :=
  (if (Int32.toInt (m.1 x0 3)) ≤ (Int32.toInt x6) then some (Sum.inr (m)) else (d_X10_layWays_l170 x0 x6 (0 : Int32) m))
noncomputable def d_X10_layWays_l158s (x0 : Nat) : (Int32 × dc_M) → Option ((Int32 × dc_M) ⊕ dc_M) := fun s => d_X10_layWays_l158b x0 s.1 s.2
noncomputable def d_X10_layWays_l158 (x0 : Nat) (x6 : Int32) (m : dc_M) : Option dc_M := dc_lp (d_X10_layWays_l158s x0) (x6, m)
set_option maxHeartbeats 8000000 in
theorem k_X10_layWays_l158 {u : Nat} {Φ : (Option dc_M) → Option Value → dc_M → Prop} (x0 : Nat) (kR : ∀  (m : dc_M), Φ (some (m)) (none) m) : ∀ (N : Nat), ∀ (x6 : Int32) (m : dc_M) (lv : ab_L), ab_lk lv 0 = some (.ref x0) → ab_lk lv 6 = some (.int x6) → dc_pv u N ab_M_X10_layWays 158 lv [] m (Φ (d_X10_layWays_l158 x0 x6 m)) := by
  intro N
  induction N with
  | zero => intros; exact dc_pv_zero
  | succ N ih =>
    intro x6 m lv f0 f6
    refine dc_ok (C := C_X10_layWays) (S := S_X10_layWays) CO_X10_layWays 400 158 [(0, .ref x0), (6, .int x6)] lv [] m (dc_sub_cons f0 (dc_sub_cons f6 (dc_sub_nil))) ?_
    unfold d_X10_layWays_l158
    rw [dc_lp_eq]
    show (fun t x => dc_lf u N ab_M_X10_layWays (Φ (Option.bind t (dc_bk (d_X10_layWays_l158s x0)))) x) (d_X10_layWays_l158b x0 x6 m) _
    dsimp only
    unfold d_X10_layWays_l158b
    refine dg_s (pc' := 160) [.int x6] rfl (fun _ => rfl) rfl ?_
    refine dg_s (pc' := 161) [.ref x0, .int x6] rfl (fun _ => rfl) rfl ?_
    refine dg_s (pc' := 164) [.int (m.1 x0 3), .int x6] rfl (fun _ => rfl) rfl ?_
    refine dw_if (fun t => Φ (Option.bind t (dc_bk (d_X10_layWays_l158s x0)))) ((Int32.toInt (m.1 x0 3)) ≤ (Int32.toInt x6)) [] 340 167 rfl (fun _ => rfl) (fun c0 => ?_) (fun c0 => ?_)
    · refine dw_g rfl ?_
      exact dw_r (some (.inl (none, m))) rfl (fun _ => rfl) (kR _)
    · refine dw_g rfl ?_
      refine dg_s (pc' := 168) [.int (0 : Int32)] rfl (fun _ => rfl) rfl ?_
      refine dw_L (pc' := 170) [(7, .int (0 : Int32)), (0, .ref x0), (6, .int x6)] [] rfl (fun _ => rfl) ?_
      exact dw_j rfl (fun lv1 hv => k_X10_layWays_l170 (Φ := (fun t => Φ (Option.bind t (dc_bk (d_X10_layWays_l158s x0))))) x0 x6 (fun _b => kR _b) N ih (0 : Int32) m lv1 (hv.1 _ rfl) (hv.2.1 _ rfl) (hv.2.2.1 _ rfl))
noncomputable def d_X10_layWays_b123 (x0 : Nat) (x1 : Int64) (x3 : Int64) (x5 : Int32) (x6 : Int32) (x7 : Int32) (x9 : Int64) (s0 : Int32) (s1 : Nat) (m : dc_M) : Option ((Int32 × dc_M) ⊕ dc_M) :=
  (if (Int32.toInt (lg_cmp x9 (m.2.1 (x0 + 28) (Int32.toNatClampNeg x7)))) ≤ 0 then some (Sum.inl ((x6 + (1 : Int32)), (dc_wl m s1 (Int32.toNatClampNeg s0) (m.2.1 (x0 + 28) (Int32.toNatClampNeg x7))))) else some (Sum.inl ((x6 + (1 : Int32)), (dc_wl m s1 (Int32.toNatClampNeg s0) x9))))
set_option maxHeartbeats 8000000 in
theorem k_X10_layWays_b123 {u : Nat} {N : Nat} {Φ : (Option ((Int32 × dc_M) ⊕ dc_M)) → Option Value → dc_M → Prop} (x0 : Nat) (x1 : Int64) (x3 : Int64) (x5 : Int32) (x6 : Int32) (x7 : Int32) (x9 : Int64) (s0 : Int32) (s1 : Nat) (m : dc_M) (kR : ∀  (m : dc_M), Φ (some (Sum.inr (m))) (none) m) (k30 : ∀ (x6 : Int32) (m : dc_M) (lv : ab_L), ab_lk lv 0 = some (.ref x0) → ab_lk lv 1 = some (.long x1) → ab_lk lv 3 = some (.long x3) → ab_lk lv 5 = some (.int x5) → ab_lk lv 6 = some (.int x6) →  dc_pv u N ab_M_X10_layWays 30 lv [] m (Φ (some (Sum.inl (x6, m))))) {lv : ab_L} (f0 : ab_lk lv 0 = some (.ref x0)) (f1 : ab_lk lv 1 = some (.long x1)) (f3 : ab_lk lv 3 = some (.long x3)) (f5 : ab_lk lv 5 = some (.int x5)) (f6 : ab_lk lv 6 = some (.int x6)) (f7 : ab_lk lv 7 = some (.int x7)) (f9 : ab_lk lv 9 = some (.long x9)) : dc_pv u N ab_M_X10_layWays 123 lv [.int s0, .ref s1] m (Φ (d_X10_layWays_b123 x0 x1 x3 x5 x6 x7 x9 s0 s1 m)) := by
  refine dc_pv.mono (dc_ok (C := C_X10_layWays) (S := S_X10_layWays) CO_X10_layWays 400 123 [(0, .ref x0), (1, .long x1), (3, .long x3), (5, .int x5), (6, .int x6), (7, .int x7), (9, .long x9)] lv [.int s0, .ref s1] m (dc_sub_cons f0 (dc_sub_cons f1 (dc_sub_cons f3 (dc_sub_cons f5 (dc_sub_cons f6 (dc_sub_cons f7 (dc_sub_cons f9 (dc_sub_nil)))))))) ?_) (Nat.le_succ N)
  unfold d_X10_layWays_b123
  refine dg_s (pc' := 125) [.long x9, .int s0, .ref s1] rfl (fun _ => rfl) rfl ?_
  refine dg_s (pc' := 126) [.ref x0, .long x9, .int s0, .ref s1] rfl (fun _ => rfl) rfl ?_
  refine dg_s (pc' := 129) [.ref (x0 + 28), .long x9, .int s0, .ref s1] rfl (fun _ => rfl) rfl ?_
  refine dg_s (pc' := 131) [.int x7, .ref (x0 + 28), .long x9, .int s0, .ref s1] rfl (fun _ => rfl) rfl ?_
  refine dg_s (pc' := 132) [.long (m.2.1 (x0 + 28) (Int32.toNatClampNeg x7)), .long x9, .int s0, .ref s1] rfl (fun _ => rfl) rfl ?_
  refine dg_s (pc' := 133) [.int (lg_cmp x9 (m.2.1 (x0 + 28) (Int32.toNatClampNeg x7))), .int s0, .ref s1] rfl (fun _ => rfl) rfl ?_
  refine dw_if (fun t => Φ t) ((Int32.toInt (lg_cmp x9 (m.2.1 (x0 + 28) (Int32.toNatClampNeg x7)))) ≤ 0) [.int s0, .ref s1] 141 136 rfl (fun _ => rfl) (fun c0 => ?_) (fun c0 => ?_)
  · refine dw_g rfl ?_
    refine dg_s (pc' := 142) [.ref x0, .int s0, .ref s1] rfl (fun _ => rfl) rfl ?_
    refine dg_s (pc' := 145) [.ref (x0 + 28), .int s0, .ref s1] rfl (fun _ => rfl) rfl ?_
    refine dg_s (pc' := 147) [.int x7, .ref (x0 + 28), .int s0, .ref s1] rfl (fun _ => rfl) rfl ?_
    refine dg_s (pc' := 148) [.long (m.2.1 (x0 + 28) (Int32.toNatClampNeg x7)), .int s0, .ref s1] rfl (fun _ => rfl) rfl ?_
    refine dg_m (pc' := 149) (dc_wl m s1 (Int32.toNatClampNeg s0) (m.2.1 (x0 + 28) (Int32.toNatClampNeg x7))) [] rfl (fun _ => rfl) rfl ?_
    refine dg_L (pc' := 152) [(6, .int (x6 + (1 : Int32))), (0, .ref x0), (1, .long x1), (3, .long x3), (5, .int x5), (7, .int x7), (9, .long x9)] [] rfl (fun _ => rfl) rfl ?_
    refine dw_s (pc' := 30) [] rfl (fun _ => rfl) ?_
    exact dw_j rfl (fun lv1 hv => k30 (x6 + (1 : Int32)) (dc_wl m s1 (Int32.toNatClampNeg s0) (m.2.1 (x0 + 28) (Int32.toNatClampNeg x7))) lv1 (hv.1 _ rfl) (hv.2.1 _ rfl) (hv.2.2.1 _ rfl) (hv.2.2.2.1 _ rfl) (hv.2.2.2.2.1 _ rfl))
  · refine dw_g rfl ?_
    refine dg_s (pc' := 138) [.long x9, .int s0, .ref s1] rfl (fun _ => rfl) rfl ?_
    refine dg_s (pc' := 148) [.long x9, .int s0, .ref s1] rfl (fun _ => rfl) rfl ?_
    refine dg_m (pc' := 149) (dc_wl m s1 (Int32.toNatClampNeg s0) x9) [] rfl (fun _ => rfl) rfl ?_
    refine dg_L (pc' := 152) [(6, .int (x6 + (1 : Int32))), (0, .ref x0), (1, .long x1), (3, .long x3), (5, .int x5), (7, .int x7), (9, .long x9)] [] rfl (fun _ => rfl) rfl ?_
    refine dw_s (pc' := 30) [] rfl (fun _ => rfl) ?_
    exact dw_j rfl (fun lv1 hv => k30 (x6 + (1 : Int32)) (dc_wl m s1 (Int32.toNatClampNeg s0) x9) lv1 (hv.1 _ rfl) (hv.2.1 _ rfl) (hv.2.2.1 _ rfl) (hv.2.2.2.1 _ rfl) (hv.2.2.2.2.1 _ rfl))
noncomputable def d_X10_layWays_b104 (x0 : Nat) (x1 : Int64) (x3 : Int64) (x5 : Int32) (x6 : Int32) (x7 : Int32) (x8 : Int32) (s0 : Int64) (s1 : Int64) (m : dc_M) : Option ((Int32 × dc_M) ⊕ dc_M) :=
  (if (Int32.toInt x5) = 0 then (d_X10_layWays_b123 x0 x1 x3 x5 x6 x7 (s1 - s0) x7 (x0 + 28) m) else (if ¬ (Int32.toInt x8) = 0 then some (Sum.inl ((x6 + (1 : Int32)), (dc_wl m (x0 + 28) (Int32.toNatClampNeg x7) (m.2.1 (x0 + 28) (Int32.toNatClampNeg x7))))) else (d_X10_layWays_b123 x0 x1 x3 x5 x6 x7 (s1 - s0) x7 (x0 + 28) m)))
set_option maxHeartbeats 8000000 in
theorem k_X10_layWays_b104 {u : Nat} {N : Nat} {Φ : (Option ((Int32 × dc_M) ⊕ dc_M)) → Option Value → dc_M → Prop} (x0 : Nat) (x1 : Int64) (x3 : Int64) (x5 : Int32) (x6 : Int32) (x7 : Int32) (x8 : Int32) (s0 : Int64) (s1 : Int64) (m : dc_M) (kR : ∀  (m : dc_M), Φ (some (Sum.inr (m))) (none) m) (k30 : ∀ (x6 : Int32) (m : dc_M) (lv : ab_L), ab_lk lv 0 = some (.ref x0) → ab_lk lv 1 = some (.long x1) → ab_lk lv 3 = some (.long x3) → ab_lk lv 5 = some (.int x5) → ab_lk lv 6 = some (.int x6) →  dc_pv u N ab_M_X10_layWays 30 lv [] m (Φ (some (Sum.inl (x6, m))))) {lv : ab_L} (f0 : ab_lk lv 0 = some (.ref x0)) (f1 : ab_lk lv 1 = some (.long x1)) (f3 : ab_lk lv 3 = some (.long x3)) (f5 : ab_lk lv 5 = some (.int x5)) (f6 : ab_lk lv 6 = some (.int x6)) (f7 : ab_lk lv 7 = some (.int x7)) (f8 : ab_lk lv 8 = some (.int x8)) : dc_pv u N ab_M_X10_layWays 104 lv [.long s0, .long s1] m (Φ (d_X10_layWays_b104 x0 x1 x3 x5 x6 x7 x8 s0 s1 m)) := by
  refine dc_pv.mono (dc_ok (C := C_X10_layWays) (S := S_X10_layWays) CO_X10_layWays 400 104 [(0, .ref x0), (1, .long x1), (3, .long x3), (5, .int x5), (6, .int x6), (7, .int x7), (8, .int x8)] lv [.long s0, .long s1] m (dc_sub_cons f0 (dc_sub_cons f1 (dc_sub_cons f3 (dc_sub_cons f5 (dc_sub_cons f6 (dc_sub_cons f7 (dc_sub_cons f8 (dc_sub_nil)))))))) ?_) (Nat.le_succ N)
  unfold d_X10_layWays_b104
  refine dg_s (pc' := 105) [.long (s1 - s0)] rfl (fun _ => rfl) rfl ?_
  refine dg_L (pc' := 107) [(9, .long (s1 - s0)), (0, .ref x0), (1, .long x1), (3, .long x3), (5, .int x5), (6, .int x6), (7, .int x7), (8, .int x8)] [] rfl (fun _ => rfl) rfl ?_
  refine dg_s (pc' := 108) [.ref x0] rfl (fun _ => rfl) rfl ?_
  refine dg_s (pc' := 111) [.ref (x0 + 28)] rfl (fun _ => rfl) rfl ?_
  refine dg_s (pc' := 113) [.int x7, .ref (x0 + 28)] rfl (fun _ => rfl) rfl ?_
  refine dg_s (pc' := 115) [.int x5, .int x7, .ref (x0 + 28)] rfl (fun _ => rfl) rfl ?_
  refine dw_if (fun t => Φ t) ((Int32.toInt x5) = 0) [.int x7, .ref (x0 + 28)] 123 118 rfl (fun _ => rfl) (fun c0 => ?_) (fun c0 => ?_)
  · exact dw_j rfl (fun lv1 hv => k_X10_layWays_b123 (Φ := (fun t => Φ t)) x0 x1 x3 x5 x6 x7 (s1 - s0) x7 (x0 + 28) m (fun _b => kR _b) k30 (hv.1 _ rfl) (hv.2.1 _ rfl) (hv.2.2.1 _ rfl) (hv.2.2.2.1 _ rfl) (hv.2.2.2.2.1 _ rfl) (hv.2.2.2.2.2.1 _ rfl) (hv.2.2.2.2.2.2.1 _ rfl))
  · refine dw_g rfl ?_
    refine dg_s (pc' := 120) [.int x8, .int x7, .ref (x0 + 28)] rfl (fun _ => rfl) rfl ?_
    refine dw_if (fun t => Φ t) (¬ (Int32.toInt x8) = 0) [.int x7, .ref (x0 + 28)] 141 123 rfl (fun _ => rfl) (fun c1 => ?_) (fun c1 => ?_)
    · refine dw_g rfl ?_
      refine dg_s (pc' := 142) [.ref x0, .int x7, .ref (x0 + 28)] rfl (fun _ => rfl) rfl ?_
      refine dg_s (pc' := 145) [.ref (x0 + 28), .int x7, .ref (x0 + 28)] rfl (fun _ => rfl) rfl ?_
      refine dg_s (pc' := 147) [.int x7, .ref (x0 + 28), .int x7, .ref (x0 + 28)] rfl (fun _ => rfl) rfl ?_
      refine dg_s (pc' := 148) [.long (m.2.1 (x0 + 28) (Int32.toNatClampNeg x7)), .int x7, .ref (x0 + 28)] rfl (fun _ => rfl) rfl ?_
      refine dg_m (pc' := 149) (dc_wl m (x0 + 28) (Int32.toNatClampNeg x7) (m.2.1 (x0 + 28) (Int32.toNatClampNeg x7))) [] rfl (fun _ => rfl) rfl ?_
      refine dg_L (pc' := 152) [(6, .int (x6 + (1 : Int32))), (9, .long (s1 - s0)), (0, .ref x0), (1, .long x1), (3, .long x3), (5, .int x5), (7, .int x7), (8, .int x8)] [] rfl (fun _ => rfl) rfl ?_
      refine dw_s (pc' := 30) [] rfl (fun _ => rfl) ?_
      exact dw_j rfl (fun lv1 hv => k30 (x6 + (1 : Int32)) (dc_wl m (x0 + 28) (Int32.toNatClampNeg x7) (m.2.1 (x0 + 28) (Int32.toNatClampNeg x7))) lv1 (hv.1 _ rfl) (hv.2.1 _ rfl) (hv.2.2.1 _ rfl) (hv.2.2.2.1 _ rfl) (hv.2.2.2.2.1 _ rfl))
    · exact dw_j rfl (fun lv1 hv => k_X10_layWays_b123 (Φ := (fun t => Φ t)) x0 x1 x3 x5 x6 x7 (s1 - s0) x7 (x0 + 28) m (fun _b => kR _b) k30 (hv.1 _ rfl) (hv.2.1 _ rfl) (hv.2.2.1 _ rfl) (hv.2.2.2.1 _ rfl) (hv.2.2.2.2.1 _ rfl) (hv.2.2.2.2.2.1 _ rfl) (hv.2.2.2.2.2.2.1 _ rfl))
noncomputable def d_X10_layWays_b77 (x0 : Nat) (x1 : Int64) (x3 : Int64) (x5 : Int32) (x6 : Int32) (x7 : Int32) (s0 : Int32) (m : dc_M) : Option ((Int32 × dc_M) ⊕ dc_M) :=
  (if (Int32.toInt s0) = 0 then (d_X10_layWays_b104 x0 x1 x3 x5 x6 x7 s0 (0 : Int64) ((Int32.toInt64 (m.1 (x0 + 8) (Int32.toNatClampNeg (m.1 (x0 + 29) (Int32.toNatClampNeg x6))))) * x1) m) else (d_X10_layWays_b104 x0 x1 x3 x5 x6 x7 s0 x3 ((Int32.toInt64 (m.1 (x0 + 8) (Int32.toNatClampNeg (m.1 (x0 + 29) (Int32.toNatClampNeg x6))))) * x1) m))
set_option maxHeartbeats 8000000 in
theorem k_X10_layWays_b77 {u : Nat} {N : Nat} {Φ : (Option ((Int32 × dc_M) ⊕ dc_M)) → Option Value → dc_M → Prop} (x0 : Nat) (x1 : Int64) (x3 : Int64) (x5 : Int32) (x6 : Int32) (x7 : Int32) (s0 : Int32) (m : dc_M) (kR : ∀  (m : dc_M), Φ (some (Sum.inr (m))) (none) m) (k30 : ∀ (x6 : Int32) (m : dc_M) (lv : ab_L), ab_lk lv 0 = some (.ref x0) → ab_lk lv 1 = some (.long x1) → ab_lk lv 3 = some (.long x3) → ab_lk lv 5 = some (.int x5) → ab_lk lv 6 = some (.int x6) →  dc_pv u N ab_M_X10_layWays 30 lv [] m (Φ (some (Sum.inl (x6, m))))) {lv : ab_L} (f0 : ab_lk lv 0 = some (.ref x0)) (f1 : ab_lk lv 1 = some (.long x1)) (f3 : ab_lk lv 3 = some (.long x3)) (f5 : ab_lk lv 5 = some (.int x5)) (f6 : ab_lk lv 6 = some (.int x6)) (f7 : ab_lk lv 7 = some (.int x7)) : dc_pv u N ab_M_X10_layWays 77 lv [.int s0] m (Φ (d_X10_layWays_b77 x0 x1 x3 x5 x6 x7 s0 m)) := by
  refine dc_pv.mono (dc_ok (C := C_X10_layWays) (S := S_X10_layWays) CO_X10_layWays 400 77 [(0, .ref x0), (1, .long x1), (3, .long x3), (5, .int x5), (6, .int x6), (7, .int x7)] lv [.int s0] m (dc_sub_cons f0 (dc_sub_cons f1 (dc_sub_cons f3 (dc_sub_cons f5 (dc_sub_cons f6 (dc_sub_cons f7 (dc_sub_nil))))))) ?_) (Nat.le_succ N)
  unfold d_X10_layWays_b77
  refine dg_L (pc' := 79) [(8, .int s0), (0, .ref x0), (1, .long x1), (3, .long x3), (5, .int x5), (6, .int x6), (7, .int x7)] [] rfl (fun _ => rfl) rfl ?_
  refine dg_s (pc' := 80) [.ref x0] rfl (fun _ => rfl) rfl ?_
  refine dg_s (pc' := 83) [.ref (x0 + 8)] rfl (fun _ => rfl) rfl ?_
  refine dg_s (pc' := 84) [.ref x0, .ref (x0 + 8)] rfl (fun _ => rfl) rfl ?_
  refine dg_s (pc' := 87) [.ref (x0 + 29), .ref (x0 + 8)] rfl (fun _ => rfl) rfl ?_
  refine dg_s (pc' := 89) [.int x6, .ref (x0 + 29), .ref (x0 + 8)] rfl (fun _ => rfl) rfl ?_
  refine dg_s (pc' := 90) [.int (m.1 (x0 + 29) (Int32.toNatClampNeg x6)), .ref (x0 + 8)] rfl (fun _ => rfl) rfl ?_
  refine dg_s (pc' := 91) [.int (m.1 (x0 + 8) (Int32.toNatClampNeg (m.1 (x0 + 29) (Int32.toNatClampNeg x6))))] rfl (fun _ => rfl) rfl ?_
  refine dg_s (pc' := 92) [.long (Int32.toInt64 (m.1 (x0 + 8) (Int32.toNatClampNeg (m.1 (x0 + 29) (Int32.toNatClampNeg x6)))))] rfl (fun _ => rfl) rfl ?_
  refine dg_s (pc' := 93) [.long x1, .long (Int32.toInt64 (m.1 (x0 + 8) (Int32.toNatClampNeg (m.1 (x0 + 29) (Int32.toNatClampNeg x6)))))] rfl (fun _ => rfl) rfl ?_
  refine dg_s (pc' := 94) [.long ((Int32.toInt64 (m.1 (x0 + 8) (Int32.toNatClampNeg (m.1 (x0 + 29) (Int32.toNatClampNeg x6))))) * x1)] rfl (fun _ => rfl) rfl ?_
  refine dg_s (pc' := 96) [.int s0, .long ((Int32.toInt64 (m.1 (x0 + 8) (Int32.toNatClampNeg (m.1 (x0 + 29) (Int32.toNatClampNeg x6))))) * x1)] rfl (fun _ => rfl) rfl ?_
  refine dw_if (fun t => Φ t) ((Int32.toInt s0) = 0) [.long ((Int32.toInt64 (m.1 (x0 + 8) (Int32.toNatClampNeg (m.1 (x0 + 29) (Int32.toNatClampNeg x6))))) * x1)] 103 99 rfl (fun _ => rfl) (fun c0 => ?_) (fun c0 => ?_)
  · refine dw_g rfl ?_
    refine dw_s (pc' := 104) [.long (0 : Int64), .long ((Int32.toInt64 (m.1 (x0 + 8) (Int32.toNatClampNeg (m.1 (x0 + 29) (Int32.toNatClampNeg x6))))) * x1)] rfl (fun _ => rfl) ?_
    exact dw_j rfl (fun lv1 hv => k_X10_layWays_b104 (Φ := (fun t => Φ t)) x0 x1 x3 x5 x6 x7 s0 (0 : Int64) ((Int32.toInt64 (m.1 (x0 + 8) (Int32.toNatClampNeg (m.1 (x0 + 29) (Int32.toNatClampNeg x6))))) * x1) m (fun _b => kR _b) k30 (hv.1 _ rfl) (hv.2.1 _ rfl) (hv.2.2.1 _ rfl) (hv.2.2.2.1 _ rfl) (hv.2.2.2.2.1 _ rfl) (hv.2.2.2.2.2.1 _ rfl) (hv.2.2.2.2.2.2.1 _ rfl))
  · refine dw_g rfl ?_
    refine dg_s (pc' := 100) [.long x3, .long ((Int32.toInt64 (m.1 (x0 + 8) (Int32.toNatClampNeg (m.1 (x0 + 29) (Int32.toNatClampNeg x6))))) * x1)] rfl (fun _ => rfl) rfl ?_
    refine dw_s (pc' := 104) [.long x3, .long ((Int32.toInt64 (m.1 (x0 + 8) (Int32.toNatClampNeg (m.1 (x0 + 29) (Int32.toNatClampNeg x6))))) * x1)] rfl (fun _ => rfl) ?_
    exact dw_j rfl (fun lv1 hv => k_X10_layWays_b104 (Φ := (fun t => Φ t)) x0 x1 x3 x5 x6 x7 s0 x3 ((Int32.toInt64 (m.1 (x0 + 8) (Int32.toNatClampNeg (m.1 (x0 + 29) (Int32.toNatClampNeg x6))))) * x1) m (fun _b => kR _b) k30 (hv.1 _ rfl) (hv.2.1 _ rfl) (hv.2.2.1 _ rfl) (hv.2.2.2.1 _ rfl) (hv.2.2.2.2.1 _ rfl) (hv.2.2.2.2.2.1 _ rfl) (hv.2.2.2.2.2.2.1 _ rfl))
noncomputable def d_X10_layWays_l30b (x0 : Nat) (x1 : Int64) (x3 : Int64) (x5 : Int32) (x6 : Int32) (m : dc_M) : Option ((Int32 × dc_M) ⊕ dc_M) :=
  (if (Int32.toInt (m.1 x0 10)) ≤ (Int32.toInt x6) then ((d_X10_layWays_l158 x0 (0 : Int32) m).map (fun z => Sum.inr (z))) else (if ¬ (Int32.toInt (((m.1 x0 11) >>> (x6 &&& 31)) &&& (1 : Int32))) = 1 then (d_X10_layWays_b77 x0 x1 x3 x5 x6 (((16 : Int32) * (m.1 (x0 + 29) (Int32.toNatClampNeg x6))) + (m.1 (x0 + 30) (Int32.toNatClampNeg x6))) (0 : Int32) m) else (d_X10_layWays_b77 x0 x1 x3 x5 x6 (((16 : Int32) * (m.1 (x0 + 29) (Int32.toNatClampNeg x6))) + (m.1 (x0 + 30) (Int32.toNatClampNeg x6))) (1 : Int32) m)))
noncomputable def d_X10_layWays_l30s (x0 : Nat) (x1 : Int64) (x3 : Int64) (x5 : Int32) : (Int32 × dc_M) → Option ((Int32 × dc_M) ⊕ dc_M) := fun s => d_X10_layWays_l30b x0 x1 x3 x5 s.1 s.2
noncomputable def d_X10_layWays_l30 (x0 : Nat) (x1 : Int64) (x3 : Int64) (x5 : Int32) (x6 : Int32) (m : dc_M) : Option dc_M := dc_lp (d_X10_layWays_l30s x0 x1 x3 x5) (x6, m)
set_option maxHeartbeats 8000000 in
theorem k_X10_layWays_l30 {u : Nat} {Φ : (Option dc_M) → Option Value → dc_M → Prop} (x0 : Nat) (x1 : Int64) (x3 : Int64) (x5 : Int32) (kR : ∀  (m : dc_M), Φ (some (m)) (none) m) : ∀ (N : Nat), ∀ (x6 : Int32) (m : dc_M) (lv : ab_L), ab_lk lv 0 = some (.ref x0) → ab_lk lv 1 = some (.long x1) → ab_lk lv 3 = some (.long x3) → ab_lk lv 5 = some (.int x5) → ab_lk lv 6 = some (.int x6) → dc_pv u N ab_M_X10_layWays 30 lv [] m (Φ (d_X10_layWays_l30 x0 x1 x3 x5 x6 m)) := by
  intro N
  induction N with
  | zero => intros; exact dc_pv_zero
  | succ N ih =>
    intro x6 m lv f0 f1 f3 f5 f6
    refine dc_ok (C := C_X10_layWays) (S := S_X10_layWays) CO_X10_layWays 400 30 [(0, .ref x0), (1, .long x1), (3, .long x3), (5, .int x5), (6, .int x6)] lv [] m (dc_sub_cons f0 (dc_sub_cons f1 (dc_sub_cons f3 (dc_sub_cons f5 (dc_sub_cons f6 (dc_sub_nil)))))) ?_
    unfold d_X10_layWays_l30
    rw [dc_lp_eq]
    show (fun t x => dc_lf u N ab_M_X10_layWays (Φ (Option.bind t (dc_bk (d_X10_layWays_l30s x0 x1 x3 x5)))) x) (d_X10_layWays_l30b x0 x1 x3 x5 x6 m) _
    dsimp only
    unfold d_X10_layWays_l30b
    refine dg_s (pc' := 32) [.int x6] rfl (fun _ => rfl) rfl ?_
    refine dg_s (pc' := 33) [.ref x0, .int x6] rfl (fun _ => rfl) rfl ?_
    refine dg_s (pc' := 36) [.int (m.1 x0 10), .int x6] rfl (fun _ => rfl) rfl ?_
    refine dw_if (fun t => Φ (Option.bind t (dc_bk (d_X10_layWays_l30s x0 x1 x3 x5)))) ((Int32.toInt (m.1 x0 10)) ≤ (Int32.toInt x6)) [] 155 39 rfl (fun _ => rfl) (fun c0 => ?_) (fun c0 => ?_)
    · refine dw_g rfl ?_
      refine dg_s (pc' := 156) [.int (0 : Int32)] rfl (fun _ => rfl) rfl ?_
      refine dw_L (pc' := 158) [(6, .int (0 : Int32)), (0, .ref x0), (1, .long x1), (3, .long x3), (5, .int x5)] [] rfl (fun _ => rfl) ?_
      exact dw_j rfl (fun lv1 hv => k_X10_layWays_l158 (Φ := (fun t => Φ (Option.bind (t.map (fun z => Sum.inr (z))) (dc_bk (d_X10_layWays_l30s x0 x1 x3 x5))))) x0 (fun _b => kR _b) N  (0 : Int32) m lv1 (hv.1 _ rfl) (hv.2.1 _ rfl))
    · refine dw_g rfl ?_
      refine dg_s (pc' := 41) [.int (16 : Int32)] rfl (fun _ => rfl) rfl ?_
      refine dg_s (pc' := 42) [.ref x0, .int (16 : Int32)] rfl (fun _ => rfl) rfl ?_
      refine dg_s (pc' := 45) [.ref (x0 + 29), .int (16 : Int32)] rfl (fun _ => rfl) rfl ?_
      refine dg_s (pc' := 47) [.int x6, .ref (x0 + 29), .int (16 : Int32)] rfl (fun _ => rfl) rfl ?_
      refine dg_s (pc' := 48) [.int (m.1 (x0 + 29) (Int32.toNatClampNeg x6)), .int (16 : Int32)] rfl (fun _ => rfl) rfl ?_
      refine dg_s (pc' := 49) [.int ((16 : Int32) * (m.1 (x0 + 29) (Int32.toNatClampNeg x6)))] rfl (fun _ => rfl) rfl ?_
      refine dg_s (pc' := 50) [.ref x0, .int ((16 : Int32) * (m.1 (x0 + 29) (Int32.toNatClampNeg x6)))] rfl (fun _ => rfl) rfl ?_
      refine dg_s (pc' := 53) [.ref (x0 + 30), .int ((16 : Int32) * (m.1 (x0 + 29) (Int32.toNatClampNeg x6)))] rfl (fun _ => rfl) rfl ?_
      refine dg_s (pc' := 55) [.int x6, .ref (x0 + 30), .int ((16 : Int32) * (m.1 (x0 + 29) (Int32.toNatClampNeg x6)))] rfl (fun _ => rfl) rfl ?_
      refine dg_s (pc' := 56) [.int (m.1 (x0 + 30) (Int32.toNatClampNeg x6)), .int ((16 : Int32) * (m.1 (x0 + 29) (Int32.toNatClampNeg x6)))] rfl (fun _ => rfl) rfl ?_
      refine dg_s (pc' := 57) [.int (((16 : Int32) * (m.1 (x0 + 29) (Int32.toNatClampNeg x6))) + (m.1 (x0 + 30) (Int32.toNatClampNeg x6)))] rfl (fun _ => rfl) rfl ?_
      refine dg_L (pc' := 59) [(7, .int (((16 : Int32) * (m.1 (x0 + 29) (Int32.toNatClampNeg x6))) + (m.1 (x0 + 30) (Int32.toNatClampNeg x6)))), (0, .ref x0), (1, .long x1), (3, .long x3), (5, .int x5), (6, .int x6)] [] rfl (fun _ => rfl) rfl ?_
      refine dg_s (pc' := 60) [.ref x0] rfl (fun _ => rfl) rfl ?_
      refine dg_s (pc' := 63) [.int (m.1 x0 11)] rfl (fun _ => rfl) rfl ?_
      refine dg_s (pc' := 65) [.int x6, .int (m.1 x0 11)] rfl (fun _ => rfl) rfl ?_
      refine dg_s (pc' := 66) [.int ((m.1 x0 11) >>> (x6 &&& 31))] rfl (fun _ => rfl) rfl ?_
      refine dg_s (pc' := 67) [.int (1 : Int32), .int ((m.1 x0 11) >>> (x6 &&& 31))] rfl (fun _ => rfl) rfl ?_
      refine dg_s (pc' := 68) [.int (((m.1 x0 11) >>> (x6 &&& 31)) &&& (1 : Int32))] rfl (fun _ => rfl) rfl ?_
      refine dg_s (pc' := 69) [.int (1 : Int32), .int (((m.1 x0 11) >>> (x6 &&& 31)) &&& (1 : Int32))] rfl (fun _ => rfl) rfl ?_
      refine dw_if (fun t => Φ (Option.bind t (dc_bk (d_X10_layWays_l30s x0 x1 x3 x5)))) (¬ (Int32.toInt (((m.1 x0 11) >>> (x6 &&& 31)) &&& (1 : Int32))) = 1) [] 76 72 rfl (fun _ => rfl) (fun c1 => ?_) (fun c1 => ?_)
      · refine dw_g rfl ?_
        refine dw_s (pc' := 77) [.int (0 : Int32)] rfl (fun _ => rfl) ?_
        exact dw_j rfl (fun lv1 hv => k_X10_layWays_b77 (Φ := (fun t => Φ (Option.bind t (dc_bk (d_X10_layWays_l30s x0 x1 x3 x5))))) x0 x1 x3 x5 x6 (((16 : Int32) * (m.1 (x0 + 29) (Int32.toNatClampNeg x6))) + (m.1 (x0 + 30) (Int32.toNatClampNeg x6))) (0 : Int32) m (fun _b => kR _b) ih (hv.1 _ rfl) (hv.2.1 _ rfl) (hv.2.2.1 _ rfl) (hv.2.2.2.1 _ rfl) (hv.2.2.2.2.1 _ rfl) (hv.2.2.2.2.2.1 _ rfl))
      · refine dw_g rfl ?_
        refine dg_s (pc' := 73) [.int (1 : Int32)] rfl (fun _ => rfl) rfl ?_
        refine dw_s (pc' := 77) [.int (1 : Int32)] rfl (fun _ => rfl) ?_
        exact dw_j rfl (fun lv1 hv => k_X10_layWays_b77 (Φ := (fun t => Φ (Option.bind t (dc_bk (d_X10_layWays_l30s x0 x1 x3 x5))))) x0 x1 x3 x5 x6 (((16 : Int32) * (m.1 (x0 + 29) (Int32.toNatClampNeg x6))) + (m.1 (x0 + 30) (Int32.toNatClampNeg x6))) (1 : Int32) m (fun _b => kR _b) ih (hv.1 _ rfl) (hv.2.1 _ rfl) (hv.2.2.1 _ rfl) (hv.2.2.2.1 _ rfl) (hv.2.2.2.2.1 _ rfl) (hv.2.2.2.2.2.1 _ rfl))
noncomputable def d_X10_layWays_l3b (x0 : Nat) (x1 : Int64) (x3 : Int64) (x5 : Int32) (x6 : Int32) (m : dc_M) : Option ((Int32 × dc_M) ⊕ dc_M) :=
  (if 256 ≤ (Int32.toInt x6) then ((d_X10_layWays_l30 x0 x1 x3 x5 (0 : Int32) m).map (fun z => Sum.inr (z))) else some (Sum.inl ((x6 + (1 : Int32)), (dc_wl m (x0 + 28) (Int32.toNatClampNeg x6) (-1000000000000 : Int64)))))
noncomputable def d_X10_layWays_l3s (x0 : Nat) (x1 : Int64) (x3 : Int64) (x5 : Int32) : (Int32 × dc_M) → Option ((Int32 × dc_M) ⊕ dc_M) := fun s => d_X10_layWays_l3b x0 x1 x3 x5 s.1 s.2
noncomputable def d_X10_layWays_l3 (x0 : Nat) (x1 : Int64) (x3 : Int64) (x5 : Int32) (x6 : Int32) (m : dc_M) : Option dc_M := dc_lp (d_X10_layWays_l3s x0 x1 x3 x5) (x6, m)
set_option maxHeartbeats 8000000 in
theorem k_X10_layWays_l3 {u : Nat} {Φ : (Option dc_M) → Option Value → dc_M → Prop} (x0 : Nat) (x1 : Int64) (x3 : Int64) (x5 : Int32) (kR : ∀  (m : dc_M), Φ (some (m)) (none) m) : ∀ (N : Nat), ∀ (x6 : Int32) (m : dc_M) (lv : ab_L), ab_lk lv 0 = some (.ref x0) → ab_lk lv 1 = some (.long x1) → ab_lk lv 3 = some (.long x3) → ab_lk lv 5 = some (.int x5) → ab_lk lv 6 = some (.int x6) → dc_pv u N ab_M_X10_layWays 3 lv [] m (Φ (d_X10_layWays_l3 x0 x1 x3 x5 x6 m)) := by
  intro N
  induction N with
  | zero => intros; exact dc_pv_zero
  | succ N ih =>
    intro x6 m lv f0 f1 f3 f5 f6
    refine dc_ok (C := C_X10_layWays) (S := S_X10_layWays) CO_X10_layWays 400 3 [(0, .ref x0), (1, .long x1), (3, .long x3), (5, .int x5), (6, .int x6)] lv [] m (dc_sub_cons f0 (dc_sub_cons f1 (dc_sub_cons f3 (dc_sub_cons f5 (dc_sub_cons f6 (dc_sub_nil)))))) ?_
    unfold d_X10_layWays_l3
    rw [dc_lp_eq]
    show (fun t x => dc_lf u N ab_M_X10_layWays (Φ (Option.bind t (dc_bk (d_X10_layWays_l3s x0 x1 x3 x5)))) x) (d_X10_layWays_l3b x0 x1 x3 x5 x6 m) _
    dsimp only
    unfold d_X10_layWays_l3b
    refine dg_s (pc' := 5) [.int x6] rfl (fun _ => rfl) rfl ?_
    refine dg_s (pc' := 8) [.int (256 : Int32), .int x6] rfl (fun _ => rfl) rfl ?_
    refine dw_if (fun t => Φ (Option.bind t (dc_bk (d_X10_layWays_l3s x0 x1 x3 x5)))) (256 ≤ (Int32.toInt x6)) [] 27 11 rfl (fun _ => rfl) (fun c0 => ?_) (fun c0 => ?_)
    · refine dw_g rfl ?_
      refine dg_s (pc' := 28) [.int (0 : Int32)] rfl (fun _ => rfl) rfl ?_
      refine dw_L (pc' := 30) [(6, .int (0 : Int32)), (0, .ref x0), (1, .long x1), (3, .long x3), (5, .int x5)] [] rfl (fun _ => rfl) ?_
      exact dw_j rfl (fun lv1 hv => k_X10_layWays_l30 (Φ := (fun t => Φ (Option.bind (t.map (fun z => Sum.inr (z))) (dc_bk (d_X10_layWays_l3s x0 x1 x3 x5))))) x0 x1 x3 x5 (fun _b => kR _b) N  (0 : Int32) m lv1 (hv.1 _ rfl) (hv.2.1 _ rfl) (hv.2.2.1 _ rfl) (hv.2.2.2.1 _ rfl) (hv.2.2.2.2.1 _ rfl))
    · refine dw_g rfl ?_
      refine dg_s (pc' := 12) [.ref x0] rfl (fun _ => rfl) rfl ?_
      refine dg_s (pc' := 15) [.ref (x0 + 28)] rfl (fun _ => rfl) rfl ?_
      refine dg_s (pc' := 17) [.int x6, .ref (x0 + 28)] rfl (fun _ => rfl) rfl ?_
      refine dg_s (pc' := 20) [.long (-1000000000000 : Int64), .int x6, .ref (x0 + 28)] rfl (fun _ => rfl) rfl ?_
      refine dg_m (pc' := 21) (dc_wl m (x0 + 28) (Int32.toNatClampNeg x6) (-1000000000000 : Int64)) [] rfl (fun _ => rfl) rfl ?_
      refine dg_L (pc' := 24) [(6, .int (x6 + (1 : Int32))), (0, .ref x0), (1, .long x1), (3, .long x3), (5, .int x5)] [] rfl (fun _ => rfl) rfl ?_
      refine dw_s (pc' := 3) [] rfl (fun _ => rfl) ?_
      exact dw_j rfl (fun lv1 hv => ih (x6 + (1 : Int32)) (dc_wl m (x0 + 28) (Int32.toNatClampNeg x6) (-1000000000000 : Int64)) lv1 (hv.1 _ rfl) (hv.2.1 _ rfl) (hv.2.2.1 _ rfl) (hv.2.2.2.1 _ rfl) (hv.2.2.2.2.1 _ rfl))
noncomputable def d_X10_layWays (x0 : Nat) (x1 : Int64) (x3 : Int64) (x5 : Int32) (m : dc_M) : Option dc_M :=
  (d_X10_layWays_l3 x0 x1 x3 x5 (0 : Int32) m)
set_option maxHeartbeats 8000000 in
theorem k_X10_layWays {u : Nat} {N : Nat} {Φ : (Option dc_M) → Option Value → dc_M → Prop} (x0 : Nat) (x1 : Int64) (x3 : Int64) (x5 : Int32) (m : dc_M) (kR : ∀  (m : dc_M), Φ (some (m)) (none) m)  {lv : ab_L} (f0 : ab_lk lv 0 = some (.ref x0)) (f1 : ab_lk lv 1 = some (.long x1)) (f3 : ab_lk lv 3 = some (.long x3)) (f5 : ab_lk lv 5 = some (.int x5)) : dc_pv u N ab_M_X10_layWays 0 lv [] m (Φ (d_X10_layWays x0 x1 x3 x5 m)) := by
  refine dc_pv.mono (dc_ok (C := C_X10_layWays) (S := S_X10_layWays) CO_X10_layWays 400 0 [(0, .ref x0), (1, .long x1), (3, .long x3), (5, .int x5)] lv [] m (dc_sub_cons f0 (dc_sub_cons f1 (dc_sub_cons f3 (dc_sub_cons f5 (dc_sub_nil))))) ?_) (Nat.le_succ N)
  unfold d_X10_layWays
  refine dg_s (pc' := 1) [.int (0 : Int32)] rfl (fun _ => rfl) rfl ?_
  refine dw_L (pc' := 3) [(6, .int (0 : Int32)), (0, .ref x0), (1, .long x1), (3, .long x3), (5, .int x5)] [] rfl (fun _ => rfl) ?_
  exact dw_j rfl (fun lv1 hv => k_X10_layWays_l3 (Φ := (fun t => Φ t)) x0 x1 x3 x5 (fun _b => kR _b) N  (0 : Int32) m lv1 (hv.1 _ rfl) (hv.2.1 _ rfl) (hv.2.2.1 _ rfl) (hv.2.2.2.1 _ rfl) (hv.2.2.2.2.1 _ rfl))
noncomputable def H_X10_layWays : dc_H := fun As m k => match As with
  | [.ref x0, .long x1, .long x3, .int x5] => (d_X10_layWays x0 x1 x3 x5 m).bind (fun q => k (none) q)
  | _ => dc_kz
theorem H_X10_layWays_ok {u : Nat} : dc_cok u 214 H_X10_layWays := fun M' hG N As m k P hz hP => by
  obtain rfl : ab_M_X10_layWays = M' := Option.some.inj hG
  unfold H_X10_layWays at hP
  split at hP
  · rename_i x0 x1 x3 x5
    exact dc_pv.imp (k_X10_layWays (Φ := fun (t : Option dc_M) r m' => P (t.bind (fun q => k (none) q)) → P (k r m')) x0 x1 x3 x5 m (fun _ h => h) rfl rfl rfl rfl) (fun r m' h => h hP)
  · exact absurd hP hz
noncomputable def C_X10_isGraph : List (Nat × dc_H) := [(166, H_X10_feeding), (214, H_X10_layWays), (213, H_X10_leastOf), (212, H_X10_sizeOf), (167, H_X10_taking)]
theorem CO_X10_isGraph {u : Nat} : dc_CO u C_X10_isGraph := dc_CO_cons H_X10_feeding_ok (dc_CO_cons H_X10_layWays_ok (dc_CO_cons H_X10_leastOf_ok (dc_CO_cons H_X10_sizeOf_ok (dc_CO_cons H_X10_taking_ok (dc_CO_nil)))))
def S_X10_isGraph : List (Nat × List Nat) := [(4, [0, 1, 2]), (52, [0, 1]), (60, [0, 1, 2]), (102, [0, 1]), (111, [0, 1, 2])]
noncomputable def d_X10_isGraph_l111b (x0 : Nat) (x1 : Int32) (x2 : Int32) (m : dc_M) : Option ((Int32 × Int32) ⊕ (Int32 × dc_M)) :=
  (if (Int32.toInt (m.1 x0 3)) ≤ (Int32.toInt x2) then some (Sum.inr ((x1, m))) else (if (Int32.toInt x1) = 0 then some (Sum.inl ((0 : Int32), (x2 + (1 : Int32)))) else (if 0 ≤ (Int32.toInt (lg_cmp (m.2.1 (x0 + 28) (Int32.toNatClampNeg ((17 : Int32) * x2))) (-500000000000 : Int64))) then some (Sum.inl ((0 : Int32), (x2 + (1 : Int32)))) else some (Sum.inl ((1 : Int32), (x2 + (1 : Int32)))))))
noncomputable def d_X10_isGraph_l111s (x0 : Nat) (m : dc_M) : (Int32 × Int32) → Option ((Int32 × Int32) ⊕ (Int32 × dc_M)) := fun s => d_X10_isGraph_l111b x0 s.1 s.2 m
noncomputable def d_X10_isGraph_l111 (x0 : Nat) (x1 : Int32) (x2 : Int32) (m : dc_M) : Option (Int32 × dc_M) := dc_lp (d_X10_isGraph_l111s x0 m) (x1, x2)
set_option maxHeartbeats 8000000 in
theorem k_X10_isGraph_l111 {u : Nat} {Φ : (Option (Int32 × dc_M)) → Option Value → dc_M → Prop} (x0 : Nat) (m : dc_M) (kR : ∀ (v : Int32) (m : dc_M), Φ (some ((v, m))) (some (.int v)) m) : ∀ (N : Nat), ∀ (x1 : Int32) (x2 : Int32) (lv : ab_L), ab_lk lv 0 = some (.ref x0) → ab_lk lv 1 = some (.int x1) → ab_lk lv 2 = some (.int x2) → dc_pv u N ab_M_X10_isGraph 111 lv [] m (Φ (d_X10_isGraph_l111 x0 x1 x2 m)) := by
  intro N
  induction N with
  | zero => intros; exact dc_pv_zero
  | succ N ih =>
    intro x1 x2 lv f0 f1 f2
    refine dc_ok (C := C_X10_isGraph) (S := S_X10_isGraph) CO_X10_isGraph 400 111 [(0, .ref x0), (1, .int x1), (2, .int x2)] lv [] m (dc_sub_cons f0 (dc_sub_cons f1 (dc_sub_cons f2 (dc_sub_nil)))) ?_
    unfold d_X10_isGraph_l111
    rw [dc_lp_eq]
    show (fun t x => dc_lf u N ab_M_X10_isGraph (Φ (Option.bind t (dc_bk (d_X10_isGraph_l111s x0 m)))) x) (d_X10_isGraph_l111b x0 x1 x2 m) _
    dsimp only
    unfold d_X10_isGraph_l111b
    refine dg_s (pc' := 112) [.int x2] rfl (fun _ => rfl) rfl ?_
    refine dg_s (pc' := 113) [.ref x0, .int x2] rfl (fun _ => rfl) rfl ?_
    refine dg_s (pc' := 116) [.int (m.1 x0 3), .int x2] rfl (fun _ => rfl) rfl ?_
    refine dw_if (fun t => Φ (Option.bind t (dc_bk (d_X10_isGraph_l111s x0 m)))) ((Int32.toInt (m.1 x0 3)) ≤ (Int32.toInt x2)) [] 151 119 rfl (fun _ => rfl) (fun c0 => ?_) (fun c0 => ?_)
    · refine dw_g rfl ?_
      refine dg_s (pc' := 152) [.int x1] rfl (fun _ => rfl) rfl ?_
      exact dw_r (some (.inl (some (.int x1), m))) rfl (fun _ => rfl) (kR _ _)
    · refine dw_g rfl ?_
      refine dg_s (pc' := 120) [.int x1] rfl (fun _ => rfl) rfl ?_
      refine dw_if (fun t => Φ (Option.bind t (dc_bk (d_X10_isGraph_l111s x0 m)))) ((Int32.toInt x1) = 0) [] 143 123 rfl (fun _ => rfl) (fun c1 => ?_) (fun c1 => ?_)
      · refine dw_g rfl ?_
        refine dg_s (pc' := 144) [.int (0 : Int32)] rfl (fun _ => rfl) rfl ?_
        refine dg_L (pc' := 145) [(1, .int (0 : Int32)), (0, .ref x0), (2, .int x2)] [] rfl (fun _ => rfl) rfl ?_
        refine dg_L (pc' := 148) [(2, .int (x2 + (1 : Int32))), (1, .int (0 : Int32)), (0, .ref x0)] [] rfl (fun _ => rfl) rfl ?_
        refine dw_s (pc' := 111) [] rfl (fun _ => rfl) ?_
        exact dw_j rfl (fun lv1 hv => ih (0 : Int32) (x2 + (1 : Int32)) lv1 (hv.1 _ rfl) (hv.2.1 _ rfl) (hv.2.2.1 _ rfl))
      · refine dw_g rfl ?_
        refine dg_s (pc' := 124) [.ref x0] rfl (fun _ => rfl) rfl ?_
        refine dg_s (pc' := 127) [.ref (x0 + 28)] rfl (fun _ => rfl) rfl ?_
        refine dg_s (pc' := 129) [.int (17 : Int32), .ref (x0 + 28)] rfl (fun _ => rfl) rfl ?_
        refine dg_s (pc' := 130) [.int x2, .int (17 : Int32), .ref (x0 + 28)] rfl (fun _ => rfl) rfl ?_
        refine dg_s (pc' := 131) [.int ((17 : Int32) * x2), .ref (x0 + 28)] rfl (fun _ => rfl) rfl ?_
        refine dg_s (pc' := 132) [.long (m.2.1 (x0 + 28) (Int32.toNatClampNeg ((17 : Int32) * x2)))] rfl (fun _ => rfl) rfl ?_
        refine dg_s (pc' := 135) [.long (-500000000000 : Int64), .long (m.2.1 (x0 + 28) (Int32.toNatClampNeg ((17 : Int32) * x2)))] rfl (fun _ => rfl) rfl ?_
        refine dg_s (pc' := 136) [.int (lg_cmp (m.2.1 (x0 + 28) (Int32.toNatClampNeg ((17 : Int32) * x2))) (-500000000000 : Int64))] rfl (fun _ => rfl) rfl ?_
        refine dw_if (fun t => Φ (Option.bind t (dc_bk (d_X10_isGraph_l111s x0 m)))) (0 ≤ (Int32.toInt (lg_cmp (m.2.1 (x0 + 28) (Int32.toNatClampNeg ((17 : Int32) * x2))) (-500000000000 : Int64)))) [] 143 139 rfl (fun _ => rfl) (fun c2 => ?_) (fun c2 => ?_)
        · refine dw_g rfl ?_
          refine dg_s (pc' := 144) [.int (0 : Int32)] rfl (fun _ => rfl) rfl ?_
          refine dg_L (pc' := 145) [(1, .int (0 : Int32)), (0, .ref x0), (2, .int x2)] [] rfl (fun _ => rfl) rfl ?_
          refine dg_L (pc' := 148) [(2, .int (x2 + (1 : Int32))), (1, .int (0 : Int32)), (0, .ref x0)] [] rfl (fun _ => rfl) rfl ?_
          refine dw_s (pc' := 111) [] rfl (fun _ => rfl) ?_
          exact dw_j rfl (fun lv1 hv => ih (0 : Int32) (x2 + (1 : Int32)) lv1 (hv.1 _ rfl) (hv.2.1 _ rfl) (hv.2.2.1 _ rfl))
        · refine dw_g rfl ?_
          refine dg_s (pc' := 140) [.int (1 : Int32)] rfl (fun _ => rfl) rfl ?_
          refine dg_s (pc' := 144) [.int (1 : Int32)] rfl (fun _ => rfl) rfl ?_
          refine dg_L (pc' := 145) [(1, .int (1 : Int32)), (0, .ref x0), (2, .int x2)] [] rfl (fun _ => rfl) rfl ?_
          refine dg_L (pc' := 148) [(2, .int (x2 + (1 : Int32))), (1, .int (1 : Int32)), (0, .ref x0)] [] rfl (fun _ => rfl) rfl ?_
          refine dw_s (pc' := 111) [] rfl (fun _ => rfl) ?_
          exact dw_j rfl (fun lv1 hv => ih (1 : Int32) (x2 + (1 : Int32)) lv1 (hv.1 _ rfl) (hv.2.1 _ rfl) (hv.2.2.1 _ rfl))
noncomputable def d_X10_isGraph_b102 (x0 : Nat) (x1 : Int32) (m : dc_M) : Option (Int32 × dc_M) :=
  ((d_X10_layWays x0 (1 : Int64) (0 : Int64) (1 : Int32) m).bind (fun q1 => (d_X10_isGraph_l111 x0 x1 (0 : Int32) q1)))
set_option maxHeartbeats 8000000 in
theorem k_X10_isGraph_b102 {u : Nat} {N : Nat} {Φ : (Option (Int32 × dc_M)) → Option Value → dc_M → Prop} (x0 : Nat) (x1 : Int32) (m : dc_M) (kR : ∀ (v : Int32) (m : dc_M), Φ (some ((v, m))) (some (.int v)) m)  {lv : ab_L} (f0 : ab_lk lv 0 = some (.ref x0)) (f1 : ab_lk lv 1 = some (.int x1)) : dc_pv u N ab_M_X10_isGraph 102 lv [] m (Φ (d_X10_isGraph_b102 x0 x1 m)) := by
  refine dc_pv.mono (dc_ok (C := C_X10_isGraph) (S := S_X10_isGraph) CO_X10_isGraph 400 102 [(0, .ref x0), (1, .int x1)] lv [] m (dc_sub_cons f0 (dc_sub_cons f1 (dc_sub_nil))) ?_) (Nat.le_succ N)
  unfold d_X10_isGraph_b102
  refine dg_s (pc' := 103) [.ref x0] rfl (fun _ => rfl) rfl ?_
  refine dg_s (pc' := 104) [.long (1 : Int64), .ref x0] rfl (fun _ => rfl) rfl ?_
  refine dg_s (pc' := 105) [.long (0 : Int64), .long (1 : Int64), .ref x0] rfl (fun _ => rfl) rfl ?_
  refine dg_s (pc' := 106) [.int (1 : Int32), .long (0 : Int64), .long (1 : Int64), .ref x0] rfl (fun _ => rfl) rfl ?_
  refine dw_b (fun t => Φ t) (pc' := 109) (fun q1 => []) (fun q1 => q1) rfl (fun _ => rfl) (fun q1 => ?_)
  refine dw_g rfl ?_
  refine dg_s (pc' := 110) [.int (0 : Int32)] rfl (fun _ => rfl) rfl ?_
  refine dw_L (pc' := 111) [(2, .int (0 : Int32)), (0, .ref x0), (1, .int x1)] [] rfl (fun _ => rfl) ?_
  exact dw_j rfl (fun lv1 hv => k_X10_isGraph_l111 (Φ := (fun t => Φ t)) x0 q1 (fun _a _b => kR _a _b) N  x1 (0 : Int32) lv1 (hv.1 _ rfl) (hv.2.1 _ rfl) (hv.2.2.1 _ rfl))
noncomputable def d_X10_isGraph_l60b (x0 : Nat) (x1 : Int32) (x2 : Int32) (m : dc_M) : Option ((Int32 × dc_M) ⊕ (Int32 × dc_M)) :=
  (if (Int32.toInt (m.1 x0 10)) ≤ (Int32.toInt x2) then ((d_X10_isGraph_b102 x0 x1 m).map (fun z => Sum.inr (z))) else ((d_X10_feeding x0 x2 m).bind (fun q1 => ((d_X10_leastOf q1 m).bind (fun q2 => ((d_X10_taking x0 x2 (dc_wi m (x0 + 29) (Int32.toNatClampNeg x2) q2)).bind (fun q3 => ((d_X10_leastOf q3 (dc_wi m (x0 + 29) (Int32.toNatClampNeg x2) q2)).bind (fun q4 => some (Sum.inl ((x2 + (1 : Int32)), (dc_wi (dc_wi m (x0 + 29) (Int32.toNatClampNeg x2) q2) (x0 + 30) (Int32.toNatClampNeg x2) q4))))))))))))
noncomputable def d_X10_isGraph_l60s (x0 : Nat) (x1 : Int32) : (Int32 × dc_M) → Option ((Int32 × dc_M) ⊕ (Int32 × dc_M)) := fun s => d_X10_isGraph_l60b x0 x1 s.1 s.2
noncomputable def d_X10_isGraph_l60 (x0 : Nat) (x1 : Int32) (x2 : Int32) (m : dc_M) : Option (Int32 × dc_M) := dc_lp (d_X10_isGraph_l60s x0 x1) (x2, m)
set_option maxHeartbeats 8000000 in
theorem k_X10_isGraph_l60 {u : Nat} {Φ : (Option (Int32 × dc_M)) → Option Value → dc_M → Prop} (x0 : Nat) (x1 : Int32) (kR : ∀ (v : Int32) (m : dc_M), Φ (some ((v, m))) (some (.int v)) m) : ∀ (N : Nat), ∀ (x2 : Int32) (m : dc_M) (lv : ab_L), ab_lk lv 0 = some (.ref x0) → ab_lk lv 1 = some (.int x1) → ab_lk lv 2 = some (.int x2) → dc_pv u N ab_M_X10_isGraph 60 lv [] m (Φ (d_X10_isGraph_l60 x0 x1 x2 m)) := by
  intro N
  induction N with
  | zero => intros; exact dc_pv_zero
  | succ N ih =>
    intro x2 m lv f0 f1 f2
    refine dc_ok (C := C_X10_isGraph) (S := S_X10_isGraph) CO_X10_isGraph 400 60 [(0, .ref x0), (1, .int x1), (2, .int x2)] lv [] m (dc_sub_cons f0 (dc_sub_cons f1 (dc_sub_cons f2 (dc_sub_nil)))) ?_
    unfold d_X10_isGraph_l60
    rw [dc_lp_eq]
    show (fun t x => dc_lf u N ab_M_X10_isGraph (Φ (Option.bind t (dc_bk (d_X10_isGraph_l60s x0 x1)))) x) (d_X10_isGraph_l60b x0 x1 x2 m) _
    dsimp only
    unfold d_X10_isGraph_l60b
    refine dg_s (pc' := 61) [.int x2] rfl (fun _ => rfl) rfl ?_
    refine dg_s (pc' := 62) [.ref x0, .int x2] rfl (fun _ => rfl) rfl ?_
    refine dg_s (pc' := 65) [.int (m.1 x0 10), .int x2] rfl (fun _ => rfl) rfl ?_
    refine dw_if (fun t => Φ (Option.bind t (dc_bk (d_X10_isGraph_l60s x0 x1)))) ((Int32.toInt (m.1 x0 10)) ≤ (Int32.toInt x2)) [] 102 68 rfl (fun _ => rfl) (fun c0 => ?_) (fun c0 => ?_)
    · exact dw_j rfl (fun lv1 hv => k_X10_isGraph_b102 (Φ := (fun t => Φ (Option.bind (t.map (fun z => Sum.inr (z))) (dc_bk (d_X10_isGraph_l60s x0 x1))))) x0 x1 m (fun _a _b => kR _a _b)  (hv.1 _ rfl) (hv.2.1 _ rfl))
    · refine dw_g rfl ?_
      refine dg_s (pc' := 69) [.ref x0] rfl (fun _ => rfl) rfl ?_
      refine dg_s (pc' := 72) [.ref (x0 + 29)] rfl (fun _ => rfl) rfl ?_
      refine dg_s (pc' := 73) [.int x2, .ref (x0 + 29)] rfl (fun _ => rfl) rfl ?_
      refine dg_s (pc' := 74) [.ref x0, .int x2, .ref (x0 + 29)] rfl (fun _ => rfl) rfl ?_
      refine dg_s (pc' := 75) [.int x2, .ref x0, .int x2, .ref (x0 + 29)] rfl (fun _ => rfl) rfl ?_
      refine dw_b (fun t => Φ (Option.bind t (dc_bk (d_X10_isGraph_l60s x0 x1)))) (pc' := 78) (fun q1 => [.int q1, .int x2, .ref (x0 + 29)]) (fun q1 => m) rfl (fun _ => rfl) (fun q1 => ?_)
      refine dw_g rfl ?_
      refine dw_b (fun t => Φ (Option.bind t (dc_bk (d_X10_isGraph_l60s x0 x1)))) (pc' := 81) (fun q2 => [.int q2, .int x2, .ref (x0 + 29)]) (fun q2 => m) rfl (fun _ => rfl) (fun q2 => ?_)
      refine dw_g rfl ?_
      refine dg_m (pc' := 82) (dc_wi m (x0 + 29) (Int32.toNatClampNeg x2) q2) [] rfl (fun _ => rfl) rfl ?_
      refine dg_s (pc' := 83) [.ref x0] rfl (fun _ => rfl) rfl ?_
      refine dg_s (pc' := 86) [.ref (x0 + 30)] rfl (fun _ => rfl) rfl ?_
      refine dg_s (pc' := 87) [.int x2, .ref (x0 + 30)] rfl (fun _ => rfl) rfl ?_
      refine dg_s (pc' := 88) [.ref x0, .int x2, .ref (x0 + 30)] rfl (fun _ => rfl) rfl ?_
      refine dg_s (pc' := 89) [.int x2, .ref x0, .int x2, .ref (x0 + 30)] rfl (fun _ => rfl) rfl ?_
      refine dw_b (fun t => Φ (Option.bind t (dc_bk (d_X10_isGraph_l60s x0 x1)))) (pc' := 92) (fun q3 => [.int q3, .int x2, .ref (x0 + 30)]) (fun q3 => (dc_wi m (x0 + 29) (Int32.toNatClampNeg x2) q2)) rfl (fun _ => rfl) (fun q3 => ?_)
      refine dw_g rfl ?_
      refine dw_b (fun t => Φ (Option.bind t (dc_bk (d_X10_isGraph_l60s x0 x1)))) (pc' := 95) (fun q4 => [.int q4, .int x2, .ref (x0 + 30)]) (fun q4 => (dc_wi m (x0 + 29) (Int32.toNatClampNeg x2) q2)) rfl (fun _ => rfl) (fun q4 => ?_)
      refine dw_g rfl ?_
      refine dg_m (pc' := 96) (dc_wi (dc_wi m (x0 + 29) (Int32.toNatClampNeg x2) q2) (x0 + 30) (Int32.toNatClampNeg x2) q4) [] rfl (fun _ => rfl) rfl ?_
      refine dg_L (pc' := 99) [(2, .int (x2 + (1 : Int32))), (0, .ref x0), (1, .int x1)] [] rfl (fun _ => rfl) rfl ?_
      refine dw_s (pc' := 60) [] rfl (fun _ => rfl) ?_
      exact dw_j rfl (fun lv1 hv => ih (x2 + (1 : Int32)) (dc_wi (dc_wi m (x0 + 29) (Int32.toNatClampNeg x2) q2) (x0 + 30) (Int32.toNatClampNeg x2) q4) lv1 (hv.1 _ rfl) (hv.2.1 _ rfl) (hv.2.2.1 _ rfl))
noncomputable def d_X10_isGraph_b52 (x0 : Nat) (x1 : Int32) (m : dc_M) : Option (Int32 × dc_M) :=
  (if ¬ (Int32.toInt x1) = 0 then (d_X10_isGraph_l60 x0 x1 (0 : Int32) m) else some (((0 : Int32), m)))
set_option maxHeartbeats 8000000 in
theorem k_X10_isGraph_b52 {u : Nat} {N : Nat} {Φ : (Option (Int32 × dc_M)) → Option Value → dc_M → Prop} (x0 : Nat) (x1 : Int32) (m : dc_M) (kR : ∀ (v : Int32) (m : dc_M), Φ (some ((v, m))) (some (.int v)) m)  {lv : ab_L} (f0 : ab_lk lv 0 = some (.ref x0)) (f1 : ab_lk lv 1 = some (.int x1)) : dc_pv u N ab_M_X10_isGraph 52 lv [] m (Φ (d_X10_isGraph_b52 x0 x1 m)) := by
  refine dc_pv.mono (dc_ok (C := C_X10_isGraph) (S := S_X10_isGraph) CO_X10_isGraph 400 52 [(0, .ref x0), (1, .int x1)] lv [] m (dc_sub_cons f0 (dc_sub_cons f1 (dc_sub_nil))) ?_) (Nat.le_succ N)
  unfold d_X10_isGraph_b52
  refine dg_s (pc' := 53) [.int x1] rfl (fun _ => rfl) rfl ?_
  refine dw_if (fun t => Φ t) (¬ (Int32.toInt x1) = 0) [] 58 56 rfl (fun _ => rfl) (fun c0 => ?_) (fun c0 => ?_)
  · refine dw_g rfl ?_
    refine dg_s (pc' := 59) [.int (0 : Int32)] rfl (fun _ => rfl) rfl ?_
    refine dw_L (pc' := 60) [(2, .int (0 : Int32)), (0, .ref x0), (1, .int x1)] [] rfl (fun _ => rfl) ?_
    exact dw_j rfl (fun lv1 hv => k_X10_isGraph_l60 (Φ := (fun t => Φ t)) x0 x1 (fun _a _b => kR _a _b) N  (0 : Int32) m lv1 (hv.1 _ rfl) (hv.2.1 _ rfl) (hv.2.2.1 _ rfl))
  · refine dw_g rfl ?_
    refine dg_s (pc' := 57) [.int (0 : Int32)] rfl (fun _ => rfl) rfl ?_
    exact dw_r (some (.inl (some (.int (0 : Int32)), m))) rfl (fun _ => rfl) (kR _ _)
noncomputable def d_X10_isGraph_l4b (x0 : Nat) (x1 : Int32) (x2 : Int32) (m : dc_M) : Option ((Int32 × Int32) ⊕ (Int32 × dc_M)) :=
  (if (Int32.toInt (m.1 x0 10)) ≤ (Int32.toInt x2) then ((d_X10_isGraph_b52 x0 x1 m).map (fun z => Sum.inr (z))) else (if (Int32.toInt x1) = 0 then some (Sum.inl ((0 : Int32), (x2 + (1 : Int32)))) else ((d_X10_feeding x0 x2 m).bind (fun q1 => ((d_X10_sizeOf q1 m).bind (fun q2 => (if ¬ (Int32.toInt q2) = 1 then some (Sum.inl ((0 : Int32), (x2 + (1 : Int32)))) else ((d_X10_taking x0 x2 m).bind (fun q3 => ((d_X10_sizeOf q3 m).bind (fun q4 => (if ¬ (Int32.toInt q4) = 1 then some (Sum.inl ((0 : Int32), (x2 + (1 : Int32)))) else some (Sum.inl ((1 : Int32), (x2 + (1 : Int32))))))))))))))))
noncomputable def d_X10_isGraph_l4s (x0 : Nat) (m : dc_M) : (Int32 × Int32) → Option ((Int32 × Int32) ⊕ (Int32 × dc_M)) := fun s => d_X10_isGraph_l4b x0 s.1 s.2 m
noncomputable def d_X10_isGraph_l4 (x0 : Nat) (x1 : Int32) (x2 : Int32) (m : dc_M) : Option (Int32 × dc_M) := dc_lp (d_X10_isGraph_l4s x0 m) (x1, x2)
set_option maxHeartbeats 8000000 in
theorem k_X10_isGraph_l4 {u : Nat} {Φ : (Option (Int32 × dc_M)) → Option Value → dc_M → Prop} (x0 : Nat) (m : dc_M) (kR : ∀ (v : Int32) (m : dc_M), Φ (some ((v, m))) (some (.int v)) m) : ∀ (N : Nat), ∀ (x1 : Int32) (x2 : Int32) (lv : ab_L), ab_lk lv 0 = some (.ref x0) → ab_lk lv 1 = some (.int x1) → ab_lk lv 2 = some (.int x2) → dc_pv u N ab_M_X10_isGraph 4 lv [] m (Φ (d_X10_isGraph_l4 x0 x1 x2 m)) := by
  intro N
  induction N with
  | zero => intros; exact dc_pv_zero
  | succ N ih =>
    intro x1 x2 lv f0 f1 f2
    refine dc_ok (C := C_X10_isGraph) (S := S_X10_isGraph) CO_X10_isGraph 400 4 [(0, .ref x0), (1, .int x1), (2, .int x2)] lv [] m (dc_sub_cons f0 (dc_sub_cons f1 (dc_sub_cons f2 (dc_sub_nil)))) ?_
    unfold d_X10_isGraph_l4
    rw [dc_lp_eq]
    show (fun t x => dc_lf u N ab_M_X10_isGraph (Φ (Option.bind t (dc_bk (d_X10_isGraph_l4s x0 m)))) x) (d_X10_isGraph_l4b x0 x1 x2 m) _
    dsimp only
    unfold d_X10_isGraph_l4b
    refine dg_s (pc' := 5) [.int x2] rfl (fun _ => rfl) rfl ?_
    refine dg_s (pc' := 6) [.ref x0, .int x2] rfl (fun _ => rfl) rfl ?_
    refine dg_s (pc' := 9) [.int (m.1 x0 10), .int x2] rfl (fun _ => rfl) rfl ?_
    refine dw_if (fun t => Φ (Option.bind t (dc_bk (d_X10_isGraph_l4s x0 m)))) ((Int32.toInt (m.1 x0 10)) ≤ (Int32.toInt x2)) [] 52 12 rfl (fun _ => rfl) (fun c0 => ?_) (fun c0 => ?_)
    · exact dw_j rfl (fun lv1 hv => k_X10_isGraph_b52 (Φ := (fun t => Φ (Option.bind (t.map (fun z => Sum.inr (z))) (dc_bk (d_X10_isGraph_l4s x0 m))))) x0 x1 m (fun _a _b => kR _a _b)  (hv.1 _ rfl) (hv.2.1 _ rfl))
    · refine dw_g rfl ?_
      refine dg_s (pc' := 13) [.int x1] rfl (fun _ => rfl) rfl ?_
      refine dw_if (fun t => Φ (Option.bind t (dc_bk (d_X10_isGraph_l4s x0 m)))) ((Int32.toInt x1) = 0) [] 44 16 rfl (fun _ => rfl) (fun c1 => ?_) (fun c1 => ?_)
      · refine dw_g rfl ?_
        refine dg_s (pc' := 45) [.int (0 : Int32)] rfl (fun _ => rfl) rfl ?_
        refine dg_L (pc' := 46) [(1, .int (0 : Int32)), (0, .ref x0), (2, .int x2)] [] rfl (fun _ => rfl) rfl ?_
        refine dg_L (pc' := 49) [(2, .int (x2 + (1 : Int32))), (1, .int (0 : Int32)), (0, .ref x0)] [] rfl (fun _ => rfl) rfl ?_
        refine dw_s (pc' := 4) [] rfl (fun _ => rfl) ?_
        exact dw_j rfl (fun lv1 hv => ih (0 : Int32) (x2 + (1 : Int32)) lv1 (hv.1 _ rfl) (hv.2.1 _ rfl) (hv.2.2.1 _ rfl))
      · refine dw_g rfl ?_
        refine dg_s (pc' := 17) [.ref x0] rfl (fun _ => rfl) rfl ?_
        refine dg_s (pc' := 18) [.int x2, .ref x0] rfl (fun _ => rfl) rfl ?_
        refine dw_b (fun t => Φ (Option.bind t (dc_bk (d_X10_isGraph_l4s x0 m)))) (pc' := 21) (fun q1 => [.int q1]) (fun q1 => m) rfl (fun _ => rfl) (fun q1 => ?_)
        refine dw_g rfl ?_
        refine dw_b (fun t => Φ (Option.bind t (dc_bk (d_X10_isGraph_l4s x0 m)))) (pc' := 24) (fun q2 => [.int q2]) (fun q2 => m) rfl (fun _ => rfl) (fun q2 => ?_)
        refine dw_g rfl ?_
        refine dg_s (pc' := 25) [.int (1 : Int32), .int q2] rfl (fun _ => rfl) rfl ?_
        refine dw_if (fun t => Φ (Option.bind t (dc_bk (d_X10_isGraph_l4s x0 m)))) (¬ (Int32.toInt q2) = 1) [] 44 28 rfl (fun _ => rfl) (fun c2 => ?_) (fun c2 => ?_)
        · refine dw_g rfl ?_
          refine dg_s (pc' := 45) [.int (0 : Int32)] rfl (fun _ => rfl) rfl ?_
          refine dg_L (pc' := 46) [(1, .int (0 : Int32)), (0, .ref x0), (2, .int x2)] [] rfl (fun _ => rfl) rfl ?_
          refine dg_L (pc' := 49) [(2, .int (x2 + (1 : Int32))), (1, .int (0 : Int32)), (0, .ref x0)] [] rfl (fun _ => rfl) rfl ?_
          refine dw_s (pc' := 4) [] rfl (fun _ => rfl) ?_
          exact dw_j rfl (fun lv1 hv => ih (0 : Int32) (x2 + (1 : Int32)) lv1 (hv.1 _ rfl) (hv.2.1 _ rfl) (hv.2.2.1 _ rfl))
        · refine dw_g rfl ?_
          refine dg_s (pc' := 29) [.ref x0] rfl (fun _ => rfl) rfl ?_
          refine dg_s (pc' := 30) [.int x2, .ref x0] rfl (fun _ => rfl) rfl ?_
          refine dw_b (fun t => Φ (Option.bind t (dc_bk (d_X10_isGraph_l4s x0 m)))) (pc' := 33) (fun q3 => [.int q3]) (fun q3 => m) rfl (fun _ => rfl) (fun q3 => ?_)
          refine dw_g rfl ?_
          refine dw_b (fun t => Φ (Option.bind t (dc_bk (d_X10_isGraph_l4s x0 m)))) (pc' := 36) (fun q4 => [.int q4]) (fun q4 => m) rfl (fun _ => rfl) (fun q4 => ?_)
          refine dw_g rfl ?_
          refine dg_s (pc' := 37) [.int (1 : Int32), .int q4] rfl (fun _ => rfl) rfl ?_
          refine dw_if (fun t => Φ (Option.bind t (dc_bk (d_X10_isGraph_l4s x0 m)))) (¬ (Int32.toInt q4) = 1) [] 44 40 rfl (fun _ => rfl) (fun c3 => ?_) (fun c3 => ?_)
          · refine dw_g rfl ?_
            refine dg_s (pc' := 45) [.int (0 : Int32)] rfl (fun _ => rfl) rfl ?_
            refine dg_L (pc' := 46) [(1, .int (0 : Int32)), (0, .ref x0), (2, .int x2)] [] rfl (fun _ => rfl) rfl ?_
            refine dg_L (pc' := 49) [(2, .int (x2 + (1 : Int32))), (1, .int (0 : Int32)), (0, .ref x0)] [] rfl (fun _ => rfl) rfl ?_
            refine dw_s (pc' := 4) [] rfl (fun _ => rfl) ?_
            exact dw_j rfl (fun lv1 hv => ih (0 : Int32) (x2 + (1 : Int32)) lv1 (hv.1 _ rfl) (hv.2.1 _ rfl) (hv.2.2.1 _ rfl))
          · refine dw_g rfl ?_
            refine dg_s (pc' := 41) [.int (1 : Int32)] rfl (fun _ => rfl) rfl ?_
            refine dg_s (pc' := 45) [.int (1 : Int32)] rfl (fun _ => rfl) rfl ?_
            refine dg_L (pc' := 46) [(1, .int (1 : Int32)), (0, .ref x0), (2, .int x2)] [] rfl (fun _ => rfl) rfl ?_
            refine dg_L (pc' := 49) [(2, .int (x2 + (1 : Int32))), (1, .int (1 : Int32)), (0, .ref x0)] [] rfl (fun _ => rfl) rfl ?_
            refine dw_s (pc' := 4) [] rfl (fun _ => rfl) ?_
            exact dw_j rfl (fun lv1 hv => ih (1 : Int32) (x2 + (1 : Int32)) lv1 (hv.1 _ rfl) (hv.2.1 _ rfl) (hv.2.2.1 _ rfl))
noncomputable def d_X10_isGraph (x0 : Nat) (m : dc_M) : Option (Int32 × dc_M) :=
  (d_X10_isGraph_l4 x0 (1 : Int32) (0 : Int32) m)
set_option maxHeartbeats 8000000 in
theorem k_X10_isGraph {u : Nat} {N : Nat} {Φ : (Option (Int32 × dc_M)) → Option Value → dc_M → Prop} (x0 : Nat) (m : dc_M) (kR : ∀ (v : Int32) (m : dc_M), Φ (some ((v, m))) (some (.int v)) m)  {lv : ab_L} (f0 : ab_lk lv 0 = some (.ref x0)) : dc_pv u N ab_M_X10_isGraph 0 lv [] m (Φ (d_X10_isGraph x0 m)) := by
  refine dc_pv.mono (dc_ok (C := C_X10_isGraph) (S := S_X10_isGraph) CO_X10_isGraph 400 0 [(0, .ref x0)] lv [] m (dc_sub_cons f0 (dc_sub_nil)) ?_) (Nat.le_succ N)
  unfold d_X10_isGraph
  refine dg_s (pc' := 1) [.int (1 : Int32)] rfl (fun _ => rfl) rfl ?_
  refine dg_L (pc' := 2) [(1, .int (1 : Int32)), (0, .ref x0)] [] rfl (fun _ => rfl) rfl ?_
  refine dg_s (pc' := 3) [.int (0 : Int32)] rfl (fun _ => rfl) rfl ?_
  refine dw_L (pc' := 4) [(2, .int (0 : Int32)), (1, .int (1 : Int32)), (0, .ref x0)] [] rfl (fun _ => rfl) ?_
  exact dw_j rfl (fun lv1 hv => k_X10_isGraph_l4 (Φ := (fun t => Φ t)) x0 m (fun _a _b => kR _a _b) N  (1 : Int32) (0 : Int32) lv1 (hv.1 _ rfl) (hv.2.1 _ rfl) (hv.2.2.1 _ rfl))
noncomputable def H_X10_isGraph : dc_H := fun As m k => match As with
  | [.ref x0] => (d_X10_isGraph x0 m).bind (fun q => k (some (.int q.1)) q.2)
  | _ => dc_kz
theorem H_X10_isGraph_ok {u : Nat} : dc_cok u 215 H_X10_isGraph := fun M' hG N As m k P hz hP => by
  obtain rfl : ab_M_X10_isGraph = M' := Option.some.inj hG
  unfold H_X10_isGraph at hP
  split at hP
  · rename_i x0
    exact dc_pv.imp (k_X10_isGraph (Φ := fun (t : Option (Int32 × dc_M)) r m' => P (t.bind (fun q => k (some (.int q.1)) q.2)) → P (k r m')) x0 m (fun _ _ h => h) rfl) (fun r m' h => h hP)
  · exact absurd hP hz
