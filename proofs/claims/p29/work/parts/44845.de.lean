/-! ===== methods as functions (written by a program) ===== -/
noncomputable def C_X7_explore : List (Nat × dc_H) := [(238, H_J7_fill_53178), (89, H_X7_expand), (90, H_X7_meet), (91, H_X7_tellLevels)]
theorem CO_X7_explore {u : Nat} : dc_CO u C_X7_explore := dc_CO_cons H_J7_fill_53178_ok (dc_CO_cons H_X7_expand_ok (dc_CO_cons H_X7_meet_ok (dc_CO_cons H_X7_tellLevels_ok (dc_CO_nil))))
def S_X7_explore : List (Nat × List Nat) := [(41, [0, 1, 2]), (68, [0, 1]), (80, [0, 1])]
noncomputable def d_X7_explore_b80 (x0 : Nat) (x1 : Nat) (m : dc_M) : Option dc_M :=
  (if ¬ (Int32.toInt (m.1 x0 1)) = 0 then some ((dc_wi m x0 3 (0 : Int32))) else ((d_X7_tellLevels x0 x1 m).bind (fun q1 => (if (Int32.toInt q1.1) = 0 then some ((dc_wi q1.2 x0 3 (0 : Int32))) else some ((dc_wi q1.2 x0 3 (1 : Int32)))))))
set_option maxHeartbeats 8000000 in
theorem k_X7_explore_b80 {u : Nat} {N : Nat} {Φ : (Option dc_M) → Option Value → dc_M → Prop} (x0 : Nat) (x1 : Nat) (m : dc_M) (kR : ∀  (m : dc_M), Φ (some (m)) (none) m)  {lv : ab_L} (f0 : ab_lk lv 0 = some (.ref x0)) (f1 : ab_lk lv 1 = some (.ref x1)) : dc_pv u N ab_M_X7_explore 80 lv [] m (Φ (d_X7_explore_b80 x0 x1 m)) := by
  refine dc_pv.mono (dc_ok (C := C_X7_explore) (S := S_X7_explore) CO_X7_explore 400 80 [(0, .ref x0), (1, .ref x1)] lv [] m (dc_sub_cons f0 (dc_sub_cons f1 (dc_sub_nil))) ?_) (Nat.le_succ N)
  unfold d_X7_explore_b80
  refine dg_s (pc' := 81) [.ref x0] rfl (fun _ => rfl) rfl ?_
  refine dg_s (pc' := 82) [.ref x0, .ref x0] rfl (fun _ => rfl) rfl ?_
  refine dg_s (pc' := 85) [.int (m.1 x0 1), .ref x0] rfl (fun _ => rfl) rfl ?_
  refine dw_if (fun t => Φ t) (¬ (Int32.toInt (m.1 x0 1)) = 0) [.ref x0] 100 88 rfl (fun _ => rfl) (fun c0 => ?_) (fun c0 => ?_)
  · refine dw_g rfl ?_
    refine dg_s (pc' := 101) [.int (0 : Int32), .ref x0] rfl (fun _ => rfl) rfl ?_
    refine dg_m (pc' := 104) (dc_wi m x0 3 (0 : Int32)) [] rfl (fun _ => rfl) rfl ?_
    exact dw_r (some (.inl (none, (dc_wi m x0 3 (0 : Int32))))) rfl (fun _ => rfl) (kR _)
  · refine dw_g rfl ?_
    refine dg_s (pc' := 89) [.ref x0, .ref x0] rfl (fun _ => rfl) rfl ?_
    refine dg_s (pc' := 90) [.ref x1, .ref x0, .ref x0] rfl (fun _ => rfl) rfl ?_
    refine dw_b (fun t => Φ t) (pc' := 93) (fun q1 => [.int q1.1, .ref x0]) (fun q1 => q1.2) rfl (fun _ => rfl) (fun q1 => ?_)
    refine dw_g rfl ?_
    refine dw_if (fun t => Φ t) ((Int32.toInt q1.1) = 0) [.ref x0] 100 96 rfl (fun _ => rfl) (fun c1 => ?_) (fun c1 => ?_)
    · refine dw_g rfl ?_
      refine dg_s (pc' := 101) [.int (0 : Int32), .ref x0] rfl (fun _ => rfl) rfl ?_
      refine dg_m (pc' := 104) (dc_wi q1.2 x0 3 (0 : Int32)) [] rfl (fun _ => rfl) rfl ?_
      exact dw_r (some (.inl (none, (dc_wi q1.2 x0 3 (0 : Int32))))) rfl (fun _ => rfl) (kR _)
    · refine dw_g rfl ?_
      refine dg_s (pc' := 97) [.int (1 : Int32), .ref x0] rfl (fun _ => rfl) rfl ?_
      refine dg_s (pc' := 101) [.int (1 : Int32), .ref x0] rfl (fun _ => rfl) rfl ?_
      refine dg_m (pc' := 104) (dc_wi q1.2 x0 3 (1 : Int32)) [] rfl (fun _ => rfl) rfl ?_
      exact dw_r (some (.inl (none, (dc_wi q1.2 x0 3 (1 : Int32))))) rfl (fun _ => rfl) (kR _)
noncomputable def d_X7_explore_b68 (x0 : Nat) (x1 : Nat) (m : dc_M) : Option dc_M :=
  (if (Int32.toInt (m.1 x0 1)) = 0 then (d_X7_explore_b80 x0 x1 m) else (d_X7_explore_b80 x0 x1 (dc_wi m x0 0 (0 : Int32))))
set_option maxHeartbeats 8000000 in
theorem k_X7_explore_b68 {u : Nat} {N : Nat} {Φ : (Option dc_M) → Option Value → dc_M → Prop} (x0 : Nat) (x1 : Nat) (m : dc_M) (kR : ∀  (m : dc_M), Φ (some (m)) (none) m)  {lv : ab_L} (f0 : ab_lk lv 0 = some (.ref x0)) (f1 : ab_lk lv 1 = some (.ref x1)) : dc_pv u N ab_M_X7_explore 68 lv [] m (Φ (d_X7_explore_b68 x0 x1 m)) := by
  refine dc_pv.mono (dc_ok (C := C_X7_explore) (S := S_X7_explore) CO_X7_explore 400 68 [(0, .ref x0), (1, .ref x1)] lv [] m (dc_sub_cons f0 (dc_sub_cons f1 (dc_sub_nil))) ?_) (Nat.le_succ N)
  unfold d_X7_explore_b68
  refine dg_s (pc' := 69) [.ref x0] rfl (fun _ => rfl) rfl ?_
  refine dg_s (pc' := 72) [.int (m.1 x0 1)] rfl (fun _ => rfl) rfl ?_
  refine dw_if (fun t => Φ t) ((Int32.toInt (m.1 x0 1)) = 0) [] 80 75 rfl (fun _ => rfl) (fun c0 => ?_) (fun c0 => ?_)
  · exact dw_j rfl (fun lv1 hv => k_X7_explore_b80 (Φ := (fun t => Φ t)) x0 x1 m (fun _b => kR _b)  (hv.1 _ rfl) (hv.2.1 _ rfl))
  · refine dw_g rfl ?_
    refine dg_s (pc' := 76) [.ref x0] rfl (fun _ => rfl) rfl ?_
    refine dg_s (pc' := 77) [.int (0 : Int32), .ref x0] rfl (fun _ => rfl) rfl ?_
    refine dw_m (pc' := 80) (dc_wi m x0 0 (0 : Int32)) [] rfl (fun _ => rfl) ?_
    exact dw_j rfl (fun lv1 hv => k_X7_explore_b80 (Φ := (fun t => Φ t)) x0 x1 (dc_wi m x0 0 (0 : Int32)) (fun _b => kR _b)  (hv.1 _ rfl) (hv.2.1 _ rfl))
noncomputable def d_X7_explore_l41b (x0 : Nat) (x1 : Nat) (x2 : Int32) (m : dc_M) : Option ((Int32 × dc_M) ⊕ dc_M) :=
  (if (Int32.toInt (m.1 x0 0)) ≤ (Int32.toInt x2) then ((d_X7_explore_b68 x0 x1 m).map (fun z => Sum.inr (z))) else (if ¬ (Int32.toInt (m.1 x0 1)) = 0 then ((d_X7_explore_b68 x0 x1 m).map (fun z => Sum.inr (z))) else ((d_X7_expand x0 x1 x2 m).bind (fun q1 => some (Sum.inl ((x2 + (1 : Int32)), q1))))))
noncomputable def d_X7_explore_l41s (x0 : Nat) (x1 : Nat) : (Int32 × dc_M) → Option ((Int32 × dc_M) ⊕ dc_M) := fun s => d_X7_explore_l41b x0 x1 s.1 s.2
noncomputable def d_X7_explore_l41 (x0 : Nat) (x1 : Nat) (x2 : Int32) (m : dc_M) : Option dc_M := dc_lp (d_X7_explore_l41s x0 x1) (x2, m)
set_option maxHeartbeats 8000000 in
theorem k_X7_explore_l41 {u : Nat} {Φ : (Option dc_M) → Option Value → dc_M → Prop} (x0 : Nat) (x1 : Nat) (kR : ∀  (m : dc_M), Φ (some (m)) (none) m) : ∀ (N : Nat), ∀ (x2 : Int32) (m : dc_M) (lv : ab_L), ab_lk lv 0 = some (.ref x0) → ab_lk lv 1 = some (.ref x1) → ab_lk lv 2 = some (.int x2) → dc_pv u N ab_M_X7_explore 41 lv [] m (Φ (d_X7_explore_l41 x0 x1 x2 m)) := by
  intro N
  induction N with
  | zero => intros; exact dc_pv_zero
  | succ N ih =>
    intro x2 m lv f0 f1 f2
    refine dc_ok (C := C_X7_explore) (S := S_X7_explore) CO_X7_explore 400 41 [(0, .ref x0), (1, .ref x1), (2, .int x2)] lv [] m (dc_sub_cons f0 (dc_sub_cons f1 (dc_sub_cons f2 (dc_sub_nil)))) ?_
    unfold d_X7_explore_l41
    rw [dc_lp_eq]
    show (fun t x => dc_lf u N ab_M_X7_explore (Φ (Option.bind t (dc_bk (d_X7_explore_l41s x0 x1)))) x) (d_X7_explore_l41b x0 x1 x2 m) _
    dsimp only
    unfold d_X7_explore_l41b
    refine dg_s (pc' := 42) [.int x2] rfl (fun _ => rfl) rfl ?_
    refine dg_s (pc' := 43) [.ref x0, .int x2] rfl (fun _ => rfl) rfl ?_
    refine dg_s (pc' := 46) [.int (m.1 x0 0), .int x2] rfl (fun _ => rfl) rfl ?_
    refine dw_if (fun t => Φ (Option.bind t (dc_bk (d_X7_explore_l41s x0 x1)))) ((Int32.toInt (m.1 x0 0)) ≤ (Int32.toInt x2)) [] 68 49 rfl (fun _ => rfl) (fun c0 => ?_) (fun c0 => ?_)
    · exact dw_j rfl (fun lv1 hv => k_X7_explore_b68 (Φ := (fun t => Φ (Option.bind (t.map (fun z => Sum.inr (z))) (dc_bk (d_X7_explore_l41s x0 x1))))) x0 x1 m (fun _b => kR _b)  (hv.1 _ rfl) (hv.2.1 _ rfl))
    · refine dw_g rfl ?_
      refine dg_s (pc' := 50) [.ref x0] rfl (fun _ => rfl) rfl ?_
      refine dg_s (pc' := 53) [.int (m.1 x0 1)] rfl (fun _ => rfl) rfl ?_
      refine dw_if (fun t => Φ (Option.bind t (dc_bk (d_X7_explore_l41s x0 x1)))) (¬ (Int32.toInt (m.1 x0 1)) = 0) [] 68 56 rfl (fun _ => rfl) (fun c1 => ?_) (fun c1 => ?_)
      · exact dw_j rfl (fun lv1 hv => k_X7_explore_b68 (Φ := (fun t => Φ (Option.bind (t.map (fun z => Sum.inr (z))) (dc_bk (d_X7_explore_l41s x0 x1))))) x0 x1 m (fun _b => kR _b)  (hv.1 _ rfl) (hv.2.1 _ rfl))
      · refine dw_g rfl ?_
        refine dg_s (pc' := 57) [.ref x0] rfl (fun _ => rfl) rfl ?_
        refine dg_s (pc' := 58) [.ref x1, .ref x0] rfl (fun _ => rfl) rfl ?_
        refine dg_s (pc' := 59) [.int x2, .ref x1, .ref x0] rfl (fun _ => rfl) rfl ?_
        refine dw_b (fun t => Φ (Option.bind t (dc_bk (d_X7_explore_l41s x0 x1)))) (pc' := 62) (fun q1 => []) (fun q1 => q1) rfl (fun _ => rfl) (fun q1 => ?_)
        refine dw_g rfl ?_
        refine dg_L (pc' := 65) [(2, .int (x2 + (1 : Int32))), (0, .ref x0), (1, .ref x1)] [] rfl (fun _ => rfl) rfl ?_
        refine dw_s (pc' := 41) [] rfl (fun _ => rfl) ?_
        exact dw_j rfl (fun lv1 hv => ih (x2 + (1 : Int32)) q1 lv1 (hv.1 _ rfl) (hv.2.1 _ rfl) (hv.2.2.1 _ rfl))
noncomputable def d_X7_explore (x0 : Nat) (x1 : Nat) (m : dc_M) : Option dc_M :=
  ((d_J7_fill_53178 (x0 + 6) (0 : Int32) (dc_wi (dc_wi (dc_wi (dc_wi m x0 0 (0 : Int32)) x0 1 (0 : Int32)) x0 2 (0 : Int32)) x0 11 (-100 : Int32))).bind (fun q1 => ((d_X7_meet x0 (q1.1 x1 13) (0 : Int32) q1).bind (fun q2 => (d_X7_explore_l41 x0 x1 (0 : Int32) q2.2)))))
set_option maxHeartbeats 8000000 in
theorem k_X7_explore {u : Nat} {N : Nat} {Φ : (Option dc_M) → Option Value → dc_M → Prop} (x0 : Nat) (x1 : Nat) (m : dc_M) (kR : ∀  (m : dc_M), Φ (some (m)) (none) m)  {lv : ab_L} (f0 : ab_lk lv 0 = some (.ref x0)) (f1 : ab_lk lv 1 = some (.ref x1)) : dc_pv u N ab_M_X7_explore 0 lv [] m (Φ (d_X7_explore x0 x1 m)) := by
  refine dc_pv.mono (dc_ok (C := C_X7_explore) (S := S_X7_explore) CO_X7_explore 400 0 [(0, .ref x0), (1, .ref x1)] lv [] m (dc_sub_cons f0 (dc_sub_cons f1 (dc_sub_nil))) ?_) (Nat.le_succ N)
  unfold d_X7_explore
  refine dg_s (pc' := 1) [.ref x0] rfl (fun _ => rfl) rfl ?_
  refine dg_s (pc' := 2) [.int (0 : Int32), .ref x0] rfl (fun _ => rfl) rfl ?_
  refine dg_m (pc' := 5) (dc_wi m x0 0 (0 : Int32)) [] rfl (fun _ => rfl) rfl ?_
  refine dg_s (pc' := 6) [.ref x0] rfl (fun _ => rfl) rfl ?_
  refine dg_s (pc' := 7) [.int (0 : Int32), .ref x0] rfl (fun _ => rfl) rfl ?_
  refine dg_m (pc' := 10) (dc_wi (dc_wi m x0 0 (0 : Int32)) x0 1 (0 : Int32)) [] rfl (fun _ => rfl) rfl ?_
  refine dg_s (pc' := 11) [.ref x0] rfl (fun _ => rfl) rfl ?_
  refine dg_s (pc' := 12) [.int (0 : Int32), .ref x0] rfl (fun _ => rfl) rfl ?_
  refine dg_m (pc' := 15) (dc_wi (dc_wi (dc_wi m x0 0 (0 : Int32)) x0 1 (0 : Int32)) x0 2 (0 : Int32)) [] rfl (fun _ => rfl) rfl ?_
  refine dg_s (pc' := 16) [.ref x0] rfl (fun _ => rfl) rfl ?_
  refine dg_s (pc' := 18) [.int (-100 : Int32), .ref x0] rfl (fun _ => rfl) rfl ?_
  refine dg_m (pc' := 21) (dc_wi (dc_wi (dc_wi (dc_wi m x0 0 (0 : Int32)) x0 1 (0 : Int32)) x0 2 (0 : Int32)) x0 11 (-100 : Int32)) [] rfl (fun _ => rfl) rfl ?_
  refine dg_s (pc' := 22) [.ref x0] rfl (fun _ => rfl) rfl ?_
  refine dg_s (pc' := 25) [.ref (x0 + 6)] rfl (fun _ => rfl) rfl ?_
  refine dg_s (pc' := 26) [.int (0 : Int32), .ref (x0 + 6)] rfl (fun _ => rfl) rfl ?_
  refine dw_b (fun t => Φ t) (pc' := 29) (fun q1 => []) (fun q1 => q1) rfl (fun _ => rfl) (fun q1 => ?_)
  refine dw_g rfl ?_
  refine dg_s (pc' := 30) [.ref x0] rfl (fun _ => rfl) rfl ?_
  refine dg_s (pc' := 31) [.ref x1, .ref x0] rfl (fun _ => rfl) rfl ?_
  refine dg_s (pc' := 34) [.int (q1.1 x1 13), .ref x0] rfl (fun _ => rfl) rfl ?_
  refine dg_s (pc' := 35) [.int (0 : Int32), .int (q1.1 x1 13), .ref x0] rfl (fun _ => rfl) rfl ?_
  refine dw_b (fun t => Φ t) (pc' := 38) (fun q2 => [.int q2.1]) (fun q2 => q2.2) rfl (fun _ => rfl) (fun q2 => ?_)
  refine dw_g rfl ?_
  refine dg_s (pc' := 39) [] rfl (fun _ => rfl) rfl ?_
  refine dg_s (pc' := 40) [.int (0 : Int32)] rfl (fun _ => rfl) rfl ?_
  refine dw_L (pc' := 41) [(2, .int (0 : Int32)), (0, .ref x0), (1, .ref x1)] [] rfl (fun _ => rfl) ?_
  exact dw_j rfl (fun lv1 hv => k_X7_explore_l41 (Φ := (fun t => Φ t)) x0 x1 (fun _b => kR _b) N  (0 : Int32) q2.2 lv1 (hv.1 _ rfl) (hv.2.1 _ rfl) (hv.2.2.1 _ rfl))
noncomputable def H_X7_explore : dc_H := fun As m k => match As with
  | [.ref x0, .ref x1] => (d_X7_explore x0 x1 m).bind (fun q => k (none) q)
  | _ => dc_kz
theorem H_X7_explore_ok {u : Nat} : dc_cok u 82 H_X7_explore := fun M' hG N As m k P hz hP => by
  obtain rfl : ab_M_X7_explore = M' := Option.some.inj hG
  unfold H_X7_explore at hP
  split at hP
  · rename_i x0 x1
    exact dc_pv.imp (k_X7_explore (Φ := fun (t : Option dc_M) r m' => P (t.bind (fun q => k (none) q)) → P (k r m')) x0 x1 m (fun _ h => h) rfl rfl) (fun r m' h => h hP)
  · exact absurd hP hz
def C_X7_aims : List (Nat × dc_H) := []
theorem CO_X7_aims {u : Nat} : dc_CO u C_X7_aims := dc_CO_nil
def S_X7_aims : List (Nat × List Nat) := []
def d_X7_aims (x0 : Nat) (x1 : Int32) (m : dc_M) : Int32 :=
  ((m.1 (x0 + 3) (Int32.toNatClampNeg x1)) ^^^ (m.1 (x0 + 4) (Int32.toNatClampNeg x1)))
set_option maxHeartbeats 8000000 in
theorem k_X7_aims {u : Nat} {N : Nat} {Φ : Int32 → Option Value → dc_M → Prop} (x0 : Nat) (x1 : Int32) (m : dc_M) (kR : ∀ (v : Int32), Φ (v) (some (.int v)) m)  {lv : ab_L} (f0 : ab_lk lv 0 = some (.ref x0)) (f1 : ab_lk lv 1 = some (.int x1)) : dc_pv u N ab_M_X7_aims 0 lv [] m (Φ (d_X7_aims x0 x1 m)) := by
  refine dc_pv.mono (dc_ok (C := C_X7_aims) (S := S_X7_aims) CO_X7_aims 400 0 [(0, .ref x0), (1, .int x1)] lv [] m (dc_sub_cons f0 (dc_sub_cons f1 (dc_sub_nil))) ?_) (Nat.le_succ N)
  unfold d_X7_aims
  refine dg_s (pc' := 1) [.ref x0] rfl (fun _ => rfl) rfl ?_
  refine dg_s (pc' := 4) [.ref (x0 + 3)] rfl (fun _ => rfl) rfl ?_
  refine dg_s (pc' := 5) [.int x1, .ref (x0 + 3)] rfl (fun _ => rfl) rfl ?_
  refine dg_s (pc' := 6) [.int (m.1 (x0 + 3) (Int32.toNatClampNeg x1))] rfl (fun _ => rfl) rfl ?_
  refine dg_s (pc' := 7) [.ref x0, .int (m.1 (x0 + 3) (Int32.toNatClampNeg x1))] rfl (fun _ => rfl) rfl ?_
  refine dg_s (pc' := 10) [.ref (x0 + 4), .int (m.1 (x0 + 3) (Int32.toNatClampNeg x1))] rfl (fun _ => rfl) rfl ?_
  refine dg_s (pc' := 11) [.int x1, .ref (x0 + 4), .int (m.1 (x0 + 3) (Int32.toNatClampNeg x1))] rfl (fun _ => rfl) rfl ?_
  refine dg_s (pc' := 12) [.int (m.1 (x0 + 4) (Int32.toNatClampNeg x1)), .int (m.1 (x0 + 3) (Int32.toNatClampNeg x1))] rfl (fun _ => rfl) rfl ?_
  refine dg_s (pc' := 13) [.int ((m.1 (x0 + 3) (Int32.toNatClampNeg x1)) ^^^ (m.1 (x0 + 4) (Int32.toNatClampNeg x1)))] rfl (fun _ => rfl) rfl ?_
  exact dw_r (some (.inl (some (.int ((m.1 (x0 + 3) (Int32.toNatClampNeg x1)) ^^^ (m.1 (x0 + 4) (Int32.toNatClampNeg x1)))), m))) rfl (fun _ => rfl) (kR _)
def H_X7_aims : dc_H := fun As m k => match As with
  | [.ref x0, .int x1] => k (some (.int (d_X7_aims x0 x1 m))) m
  | _ => dc_kz
theorem H_X7_aims_ok {u : Nat} : dc_cok u 83 H_X7_aims := fun M' hG N As m k P hz hP => by
  obtain rfl : ab_M_X7_aims = M' := Option.some.inj hG
  unfold H_X7_aims at hP
  split at hP
  · rename_i x0 x1
    exact dc_pv.imp (k_X7_aims (Φ := fun (t : Int32) r m' => P (k (some (.int t)) m) → P (k r m')) x0 x1 m (fun _  h => h) rfl rfl) (fun r m' h => h hP)
  · exact absurd hP hz
def C_X7_ends : List (Nat × dc_H) := []
theorem CO_X7_ends {u : Nat} : dc_CO u C_X7_ends := dc_CO_nil
def S_X7_ends : List (Nat × List Nat) := [(4, [0, 1, 2])]
noncomputable def d_X7_ends_l4b (x0 : Nat) (x1 : Int32) (x2 : Int32) (m : dc_M) : Option ((Int32 × Int32) ⊕ Int32) :=
  (if (Int32.toInt (m.1 x0 0)) ≤ (Int32.toInt x2) then some (Sum.inr (x1)) else (if ¬ (Int32.toInt (m.1 (x0 + 2) (Int32.toNatClampNeg x2))) = 0 then some (Sum.inl (x1, (x2 + (1 : Int32)))) else some (Sum.inl ((x1 + (1 : Int32)), (x2 + (1 : Int32))))))
noncomputable def d_X7_ends_l4s (x0 : Nat) (m : dc_M) : (Int32 × Int32) → Option ((Int32 × Int32) ⊕ Int32) := fun s => d_X7_ends_l4b x0 s.1 s.2 m
noncomputable def d_X7_ends_l4 (x0 : Nat) (x1 : Int32) (x2 : Int32) (m : dc_M) : Option Int32 := dc_lp (d_X7_ends_l4s x0 m) (x1, x2)
set_option maxHeartbeats 8000000 in
theorem k_X7_ends_l4 {u : Nat} {Φ : (Option Int32) → Option Value → dc_M → Prop} (x0 : Nat) (m : dc_M) (kR : ∀ (v : Int32), Φ (some (v)) (some (.int v)) m) : ∀ (N : Nat), ∀ (x1 : Int32) (x2 : Int32) (lv : ab_L), ab_lk lv 0 = some (.ref x0) → ab_lk lv 1 = some (.int x1) → ab_lk lv 2 = some (.int x2) → dc_pv u N ab_M_X7_ends 4 lv [] m (Φ (d_X7_ends_l4 x0 x1 x2 m)) := by
  intro N
  induction N with
  | zero => intros; exact dc_pv_zero
  | succ N ih =>
    intro x1 x2 lv f0 f1 f2
    refine dc_ok (C := C_X7_ends) (S := S_X7_ends) CO_X7_ends 400 4 [(0, .ref x0), (1, .int x1), (2, .int x2)] lv [] m (dc_sub_cons f0 (dc_sub_cons f1 (dc_sub_cons f2 (dc_sub_nil)))) ?_
    unfold d_X7_ends_l4
    rw [dc_lp_eq]
    show (fun t x => dc_lf u N ab_M_X7_ends (Φ (Option.bind t (dc_bk (d_X7_ends_l4s x0 m)))) x) (d_X7_ends_l4b x0 x1 x2 m) _
    dsimp only
    unfold d_X7_ends_l4b
    refine dg_s (pc' := 5) [.int x2] rfl (fun _ => rfl) rfl ?_
    refine dg_s (pc' := 6) [.ref x0, .int x2] rfl (fun _ => rfl) rfl ?_
    refine dg_s (pc' := 9) [.int (m.1 x0 0), .int x2] rfl (fun _ => rfl) rfl ?_
    refine dw_if (fun t => Φ (Option.bind t (dc_bk (d_X7_ends_l4s x0 m)))) ((Int32.toInt (m.1 x0 0)) ≤ (Int32.toInt x2)) [] 30 12 rfl (fun _ => rfl) (fun c0 => ?_) (fun c0 => ?_)
    · refine dw_g rfl ?_
      refine dg_s (pc' := 31) [.int x1] rfl (fun _ => rfl) rfl ?_
      exact dw_r (some (.inl (some (.int x1), m))) rfl (fun _ => rfl) (kR _)
    · refine dw_g rfl ?_
      refine dg_s (pc' := 13) [.ref x0] rfl (fun _ => rfl) rfl ?_
      refine dg_s (pc' := 16) [.ref (x0 + 2)] rfl (fun _ => rfl) rfl ?_
      refine dg_s (pc' := 17) [.int x2, .ref (x0 + 2)] rfl (fun _ => rfl) rfl ?_
      refine dg_s (pc' := 18) [.int (m.1 (x0 + 2) (Int32.toNatClampNeg x2))] rfl (fun _ => rfl) rfl ?_
      refine dw_if (fun t => Φ (Option.bind t (dc_bk (d_X7_ends_l4s x0 m)))) (¬ (Int32.toInt (m.1 (x0 + 2) (Int32.toNatClampNeg x2))) = 0) [] 24 21 rfl (fun _ => rfl) (fun c1 => ?_) (fun c1 => ?_)
      · refine dw_g rfl ?_
        refine dg_L (pc' := 27) [(2, .int (x2 + (1 : Int32))), (0, .ref x0), (1, .int x1)] [] rfl (fun _ => rfl) rfl ?_
        refine dw_s (pc' := 4) [] rfl (fun _ => rfl) ?_
        exact dw_j rfl (fun lv1 hv => ih x1 (x2 + (1 : Int32)) lv1 (hv.1 _ rfl) (hv.2.1 _ rfl) (hv.2.2.1 _ rfl))
      · refine dw_g rfl ?_
        refine dg_L (pc' := 24) [(1, .int (x1 + (1 : Int32))), (0, .ref x0), (2, .int x2)] [] rfl (fun _ => rfl) rfl ?_
        refine dg_L (pc' := 27) [(2, .int (x2 + (1 : Int32))), (1, .int (x1 + (1 : Int32))), (0, .ref x0)] [] rfl (fun _ => rfl) rfl ?_
        refine dw_s (pc' := 4) [] rfl (fun _ => rfl) ?_
        exact dw_j rfl (fun lv1 hv => ih (x1 + (1 : Int32)) (x2 + (1 : Int32)) lv1 (hv.1 _ rfl) (hv.2.1 _ rfl) (hv.2.2.1 _ rfl))
noncomputable def d_X7_ends (x0 : Nat) (m : dc_M) : Option Int32 :=
  (d_X7_ends_l4 x0 (0 : Int32) (0 : Int32) m)
set_option maxHeartbeats 8000000 in
theorem k_X7_ends {u : Nat} {N : Nat} {Φ : (Option Int32) → Option Value → dc_M → Prop} (x0 : Nat) (m : dc_M) (kR : ∀ (v : Int32), Φ (some (v)) (some (.int v)) m)  {lv : ab_L} (f0 : ab_lk lv 0 = some (.ref x0)) : dc_pv u N ab_M_X7_ends 0 lv [] m (Φ (d_X7_ends x0 m)) := by
  refine dc_pv.mono (dc_ok (C := C_X7_ends) (S := S_X7_ends) CO_X7_ends 400 0 [(0, .ref x0)] lv [] m (dc_sub_cons f0 (dc_sub_nil)) ?_) (Nat.le_succ N)
  unfold d_X7_ends
  refine dg_s (pc' := 1) [.int (0 : Int32)] rfl (fun _ => rfl) rfl ?_
  refine dg_L (pc' := 2) [(1, .int (0 : Int32)), (0, .ref x0)] [] rfl (fun _ => rfl) rfl ?_
  refine dg_s (pc' := 3) [.int (0 : Int32)] rfl (fun _ => rfl) rfl ?_
  refine dw_L (pc' := 4) [(2, .int (0 : Int32)), (1, .int (0 : Int32)), (0, .ref x0)] [] rfl (fun _ => rfl) ?_
  exact dw_j rfl (fun lv1 hv => k_X7_ends_l4 (Φ := (fun t => Φ t)) x0 m (fun _a  => kR _a) N  (0 : Int32) (0 : Int32) lv1 (hv.1 _ rfl) (hv.2.1 _ rfl) (hv.2.2.1 _ rfl))
noncomputable def H_X7_ends : dc_H := fun As m k => match As with
  | [.ref x0] => (d_X7_ends x0 m).bind (fun q => k (some (.int q)) m)
  | _ => dc_kz
theorem H_X7_ends_ok {u : Nat} : dc_cok u 85 H_X7_ends := fun M' hG N As m k P hz hP => by
  obtain rfl : ab_M_X7_ends = M' := Option.some.inj hG
  unfold H_X7_ends at hP
  split at hP
  · rename_i x0
    exact dc_pv.imp (k_X7_ends (Φ := fun (t : Option Int32) r m' => P (t.bind (fun q => k (some (.int q)) m)) → P (k r m')) x0 m (fun _  h => h) rfl) (fun r m' h => h hP)
  · exact absurd hP hz
def C_X7_leadsHome : List (Nat × dc_H) := []
theorem CO_X7_leadsHome {u : Nat} : dc_CO u C_X7_leadsHome := dc_CO_nil
def S_X7_leadsHome : List (Nat × List Nat) := [(2, [0, 1, 2])]
noncomputable def d_X7_leadsHome_l2b (x0 : Nat) (x1 : Int32) (x2 : Int32) (m : dc_M) : Option (Int32 ⊕ Int32) :=
  (if 16 ≤ (Int32.toInt x2) then some (Sum.inr ((0 : Int32))) else (if (Int32.toInt (((m.1 (x0 + 2) (Int32.toNatClampNeg x1)) >>> (x2 &&& 31)) &&& (1 : Int32))) = 0 then some (Sum.inl (x2 + (1 : Int32))) else (if ¬ (Int32.toInt (m.1 (x0 + 7) (Int32.toNatClampNeg (m.1 (x0 + 5) (Int32.toNatClampNeg ((x1 * (16 : Int32)) + x2)))))) = 1 then some (Sum.inl (x2 + (1 : Int32))) else some (Sum.inr ((1 : Int32))))))
noncomputable def d_X7_leadsHome_l2s (x0 : Nat) (x1 : Int32) (m : dc_M) : Int32 → Option (Int32 ⊕ Int32) := fun s => d_X7_leadsHome_l2b x0 x1 s m
noncomputable def d_X7_leadsHome_l2 (x0 : Nat) (x1 : Int32) (x2 : Int32) (m : dc_M) : Option Int32 := dc_lp (d_X7_leadsHome_l2s x0 x1 m) x2
set_option maxHeartbeats 8000000 in
theorem k_X7_leadsHome_l2 {u : Nat} {Φ : (Option Int32) → Option Value → dc_M → Prop} (x0 : Nat) (x1 : Int32) (m : dc_M) (kR : ∀ (v : Int32), Φ (some (v)) (some (.int v)) m) : ∀ (N : Nat), ∀ (x2 : Int32) (lv : ab_L), ab_lk lv 0 = some (.ref x0) → ab_lk lv 1 = some (.int x1) → ab_lk lv 2 = some (.int x2) → dc_pv u N ab_M_X7_leadsHome 2 lv [] m (Φ (d_X7_leadsHome_l2 x0 x1 x2 m)) := by
  intro N
  induction N with
  | zero => intros; exact dc_pv_zero
  | succ N ih =>
    intro x2 lv f0 f1 f2
    refine dc_ok (C := C_X7_leadsHome) (S := S_X7_leadsHome) CO_X7_leadsHome 400 2 [(0, .ref x0), (1, .int x1), (2, .int x2)] lv [] m (dc_sub_cons f0 (dc_sub_cons f1 (dc_sub_cons f2 (dc_sub_nil)))) ?_
    unfold d_X7_leadsHome_l2
    rw [dc_lp_eq]
    show (fun t x => dc_lf u N ab_M_X7_leadsHome (Φ (Option.bind t (dc_bk (d_X7_leadsHome_l2s x0 x1 m)))) x) (d_X7_leadsHome_l2b x0 x1 x2 m) _
    dsimp only
    unfold d_X7_leadsHome_l2b
    refine dg_s (pc' := 3) [.int x2] rfl (fun _ => rfl) rfl ?_
    refine dg_s (pc' := 5) [.int (16 : Int32), .int x2] rfl (fun _ => rfl) rfl ?_
    refine dw_if (fun t => Φ (Option.bind t (dc_bk (d_X7_leadsHome_l2s x0 x1 m)))) (16 ≤ (Int32.toInt x2)) [] 49 8 rfl (fun _ => rfl) (fun c0 => ?_) (fun c0 => ?_)
    · refine dw_g rfl ?_
      refine dg_s (pc' := 50) [.int (0 : Int32)] rfl (fun _ => rfl) rfl ?_
      exact dw_r (some (.inl (some (.int (0 : Int32)), m))) rfl (fun _ => rfl) (kR _)
    · refine dw_g rfl ?_
      refine dg_s (pc' := 9) [.ref x0] rfl (fun _ => rfl) rfl ?_
      refine dg_s (pc' := 12) [.ref (x0 + 2)] rfl (fun _ => rfl) rfl ?_
      refine dg_s (pc' := 13) [.int x1, .ref (x0 + 2)] rfl (fun _ => rfl) rfl ?_
      refine dg_s (pc' := 14) [.int (m.1 (x0 + 2) (Int32.toNatClampNeg x1))] rfl (fun _ => rfl) rfl ?_
      refine dg_s (pc' := 15) [.int x2, .int (m.1 (x0 + 2) (Int32.toNatClampNeg x1))] rfl (fun _ => rfl) rfl ?_
      refine dg_s (pc' := 16) [.int ((m.1 (x0 + 2) (Int32.toNatClampNeg x1)) >>> (x2 &&& 31))] rfl (fun _ => rfl) rfl ?_
      refine dg_s (pc' := 17) [.int (1 : Int32), .int ((m.1 (x0 + 2) (Int32.toNatClampNeg x1)) >>> (x2 &&& 31))] rfl (fun _ => rfl) rfl ?_
      refine dg_s (pc' := 18) [.int (((m.1 (x0 + 2) (Int32.toNatClampNeg x1)) >>> (x2 &&& 31)) &&& (1 : Int32))] rfl (fun _ => rfl) rfl ?_
      refine dw_if (fun t => Φ (Option.bind t (dc_bk (d_X7_leadsHome_l2s x0 x1 m)))) ((Int32.toInt (((m.1 (x0 + 2) (Int32.toNatClampNeg x1)) >>> (x2 &&& 31)) &&& (1 : Int32))) = 0) [] 43 21 rfl (fun _ => rfl) (fun c1 => ?_) (fun c1 => ?_)
      · refine dw_g rfl ?_
        refine dg_L (pc' := 46) [(2, .int (x2 + (1 : Int32))), (0, .ref x0), (1, .int x1)] [] rfl (fun _ => rfl) rfl ?_
        refine dw_s (pc' := 2) [] rfl (fun _ => rfl) ?_
        exact dw_j rfl (fun lv1 hv => ih (x2 + (1 : Int32)) lv1 (hv.1 _ rfl) (hv.2.1 _ rfl) (hv.2.2.1 _ rfl))
      · refine dw_g rfl ?_
        refine dg_s (pc' := 22) [.ref x0] rfl (fun _ => rfl) rfl ?_
        refine dg_s (pc' := 25) [.ref (x0 + 7)] rfl (fun _ => rfl) rfl ?_
        refine dg_s (pc' := 26) [.ref x0, .ref (x0 + 7)] rfl (fun _ => rfl) rfl ?_
        refine dg_s (pc' := 29) [.ref (x0 + 5), .ref (x0 + 7)] rfl (fun _ => rfl) rfl ?_
        refine dg_s (pc' := 30) [.int x1, .ref (x0 + 5), .ref (x0 + 7)] rfl (fun _ => rfl) rfl ?_
        refine dg_s (pc' := 32) [.int (16 : Int32), .int x1, .ref (x0 + 5), .ref (x0 + 7)] rfl (fun _ => rfl) rfl ?_
        refine dg_s (pc' := 33) [.int (x1 * (16 : Int32)), .ref (x0 + 5), .ref (x0 + 7)] rfl (fun _ => rfl) rfl ?_
        refine dg_s (pc' := 34) [.int x2, .int (x1 * (16 : Int32)), .ref (x0 + 5), .ref (x0 + 7)] rfl (fun _ => rfl) rfl ?_
        refine dg_s (pc' := 35) [.int ((x1 * (16 : Int32)) + x2), .ref (x0 + 5), .ref (x0 + 7)] rfl (fun _ => rfl) rfl ?_
        refine dg_s (pc' := 36) [.int (m.1 (x0 + 5) (Int32.toNatClampNeg ((x1 * (16 : Int32)) + x2))), .ref (x0 + 7)] rfl (fun _ => rfl) rfl ?_
        refine dg_s (pc' := 37) [.int (m.1 (x0 + 7) (Int32.toNatClampNeg (m.1 (x0 + 5) (Int32.toNatClampNeg ((x1 * (16 : Int32)) + x2)))))] rfl (fun _ => rfl) rfl ?_
        refine dg_s (pc' := 38) [.int (1 : Int32), .int (m.1 (x0 + 7) (Int32.toNatClampNeg (m.1 (x0 + 5) (Int32.toNatClampNeg ((x1 * (16 : Int32)) + x2)))))] rfl (fun _ => rfl) rfl ?_
        refine dw_if (fun t => Φ (Option.bind t (dc_bk (d_X7_leadsHome_l2s x0 x1 m)))) (¬ (Int32.toInt (m.1 (x0 + 7) (Int32.toNatClampNeg (m.1 (x0 + 5) (Int32.toNatClampNeg ((x1 * (16 : Int32)) + x2)))))) = 1) [] 43 41 rfl (fun _ => rfl) (fun c2 => ?_) (fun c2 => ?_)
        · refine dw_g rfl ?_
          refine dg_L (pc' := 46) [(2, .int (x2 + (1 : Int32))), (0, .ref x0), (1, .int x1)] [] rfl (fun _ => rfl) rfl ?_
          refine dw_s (pc' := 2) [] rfl (fun _ => rfl) ?_
          exact dw_j rfl (fun lv1 hv => ih (x2 + (1 : Int32)) lv1 (hv.1 _ rfl) (hv.2.1 _ rfl) (hv.2.2.1 _ rfl))
        · refine dw_g rfl ?_
          refine dg_s (pc' := 42) [.int (1 : Int32)] rfl (fun _ => rfl) rfl ?_
          exact dw_r (some (.inl (some (.int (1 : Int32)), m))) rfl (fun _ => rfl) (kR _)
noncomputable def d_X7_leadsHome (x0 : Nat) (x1 : Int32) (m : dc_M) : Option Int32 :=
  (d_X7_leadsHome_l2 x0 x1 (0 : Int32) m)
set_option maxHeartbeats 8000000 in
theorem k_X7_leadsHome {u : Nat} {N : Nat} {Φ : (Option Int32) → Option Value → dc_M → Prop} (x0 : Nat) (x1 : Int32) (m : dc_M) (kR : ∀ (v : Int32), Φ (some (v)) (some (.int v)) m)  {lv : ab_L} (f0 : ab_lk lv 0 = some (.ref x0)) (f1 : ab_lk lv 1 = some (.int x1)) : dc_pv u N ab_M_X7_leadsHome 0 lv [] m (Φ (d_X7_leadsHome x0 x1 m)) := by
  refine dc_pv.mono (dc_ok (C := C_X7_leadsHome) (S := S_X7_leadsHome) CO_X7_leadsHome 400 0 [(0, .ref x0), (1, .int x1)] lv [] m (dc_sub_cons f0 (dc_sub_cons f1 (dc_sub_nil))) ?_) (Nat.le_succ N)
  unfold d_X7_leadsHome
  refine dg_s (pc' := 1) [.int (0 : Int32)] rfl (fun _ => rfl) rfl ?_
  refine dw_L (pc' := 2) [(2, .int (0 : Int32)), (0, .ref x0), (1, .int x1)] [] rfl (fun _ => rfl) ?_
  exact dw_j rfl (fun lv1 hv => k_X7_leadsHome_l2 (Φ := (fun t => Φ t)) x0 x1 m (fun _a  => kR _a) N  (0 : Int32) lv1 (hv.1 _ rfl) (hv.2.1 _ rfl) (hv.2.2.1 _ rfl))
noncomputable def H_X7_leadsHome : dc_H := fun As m k => match As with
  | [.ref x0, .int x1] => (d_X7_leadsHome x0 x1 m).bind (fun q => k (some (.int q)) m)
  | _ => dc_kz
theorem H_X7_leadsHome_ok {u : Nat} : dc_cok u 88 H_X7_leadsHome := fun M' hG N As m k P hz hP => by
  obtain rfl : ab_M_X7_leadsHome = M' := Option.some.inj hG
  unfold H_X7_leadsHome at hP
  split at hP
  · rename_i x0 x1
    exact dc_pv.imp (k_X7_leadsHome (Φ := fun (t : Option Int32) r m' => P (t.bind (fun q => k (some (.int q)) m)) → P (k r m')) x0 x1 m (fun _  h => h) rfl rfl) (fun r m' h => h hP)
  · exact absurd hP hz
noncomputable def C_X7_findHome : List (Nat × dc_H) := [(238, H_J7_fill_53178), (88, H_X7_leadsHome)]
theorem CO_X7_findHome {u : Nat} : dc_CO u C_X7_findHome := dc_CO_cons H_J7_fill_53178_ok (dc_CO_cons H_X7_leadsHome_ok (dc_CO_nil))
def S_X7_findHome : List (Nat × List Nat) := [(21, [0, 1, 2, 3]), (43, [0, 1, 2, 3, 4])]
noncomputable def d_X7_findHome_l43b (x0 : Nat) (x2 : Int32) (x3 : Int32) (x1 : Int32) (x4 : Int32) (m : dc_M) : Option ((Int32 × Int32 × dc_M) ⊕ ((Int32 × Int32 × Int32 × dc_M) ⊕ (Int32 × dc_M))) :=
  (if (Int32.toInt x4) ≤ 0 then some (Sum.inr (Sum.inl (x1, x2, (x3 + (1 : Int32)), m))) else (if ¬ (Int32.toInt (m.1 (x0 + 7) (Int32.toNatClampNeg x4))) = 0 then some (Sum.inl (x1, (x4 + (-1)), m)) else ((d_X7_leadsHome x0 x4 m).bind (fun q1 => (if (Int32.toInt q1) = 0 then some (Sum.inl (x1, (x4 + (-1)), m)) else some (Sum.inl ((x1 + (1 : Int32)), (x4 + (-1)), (dc_wi m (x0 + 7) (Int32.toNatClampNeg x4) (1 : Int32)))))))))
noncomputable def d_X7_findHome_l43s (x0 : Nat) (x2 : Int32) (x3 : Int32) : (Int32 × Int32 × dc_M) → Option ((Int32 × Int32 × dc_M) ⊕ ((Int32 × Int32 × Int32 × dc_M) ⊕ (Int32 × dc_M))) := fun s => d_X7_findHome_l43b x0 x2 x3 s.1 s.2.1 s.2.2
noncomputable def d_X7_findHome_l43 (x0 : Nat) (x2 : Int32) (x3 : Int32) (x1 : Int32) (x4 : Int32) (m : dc_M) : Option ((Int32 × Int32 × Int32 × dc_M) ⊕ (Int32 × dc_M)) := dc_lp (d_X7_findHome_l43s x0 x2 x3) (x1, x4, m)
set_option maxHeartbeats 8000000 in
theorem k_X7_findHome_l43 {u : Nat} {Φ : (Option ((Int32 × Int32 × Int32 × dc_M) ⊕ (Int32 × dc_M))) → Option Value → dc_M → Prop} (x0 : Nat) (x2 : Int32) (x3 : Int32) (kR : ∀ (v : Int32) (m : dc_M), Φ (some (Sum.inr ((v, m)))) (some (.int v)) m) : ∀ (N : Nat), (∀ (x1 : Int32) (x2 : Int32) (x3 : Int32) (m : dc_M) (lv : ab_L), ab_lk lv 0 = some (.ref x0) → ab_lk lv 1 = some (.int x1) → ab_lk lv 2 = some (.int x2) → ab_lk lv 3 = some (.int x3) →  dc_pv u N ab_M_X7_findHome 21 lv [] m (Φ (some (Sum.inl (x1, x2, x3, m))))) → ∀ (x1 : Int32) (x4 : Int32) (m : dc_M) (lv : ab_L), ab_lk lv 0 = some (.ref x0) → ab_lk lv 1 = some (.int x1) → ab_lk lv 2 = some (.int x2) → ab_lk lv 3 = some (.int x3) → ab_lk lv 4 = some (.int x4) → dc_pv u N ab_M_X7_findHome 43 lv [] m (Φ (d_X7_findHome_l43 x0 x2 x3 x1 x4 m)) := by
  intro N
  induction N with
  | zero => intros; exact dc_pv_zero
  | succ N ih =>
    intro k21 x1 x4 m lv f0 f1 f2 f3 f4
    have k21 := fun a0 a1 a2 a3 a4 a5 a6 a7 a8 => (k21 a0 a1 a2 a3 a4 a5 a6 a7 a8).mono (Nat.le_succ N)
    have ih := ih k21
    refine dc_ok (C := C_X7_findHome) (S := S_X7_findHome) CO_X7_findHome 400 43 [(0, .ref x0), (1, .int x1), (2, .int x2), (3, .int x3), (4, .int x4)] lv [] m (dc_sub_cons f0 (dc_sub_cons f1 (dc_sub_cons f2 (dc_sub_cons f3 (dc_sub_cons f4 (dc_sub_nil)))))) ?_
    unfold d_X7_findHome_l43
    rw [dc_lp_eq]
    show (fun t x => dc_lf u N ab_M_X7_findHome (Φ (Option.bind t (dc_bk (d_X7_findHome_l43s x0 x2 x3)))) x) (d_X7_findHome_l43b x0 x2 x3 x1 x4 m) _
    dsimp only
    unfold d_X7_findHome_l43b
    refine dg_s (pc' := 45) [.int x4] rfl (fun _ => rfl) rfl ?_
    refine dw_if (fun t => Φ (Option.bind t (dc_bk (d_X7_findHome_l43s x0 x2 x3)))) ((Int32.toInt x4) ≤ 0) [] 84 48 rfl (fun _ => rfl) (fun c0 => ?_) (fun c0 => ?_)
    · refine dw_g rfl ?_
      refine dg_L (pc' := 87) [(3, .int (x3 + (1 : Int32))), (0, .ref x0), (1, .int x1), (2, .int x2), (4, .int x4)] [] rfl (fun _ => rfl) rfl ?_
      refine dw_s (pc' := 21) [] rfl (fun _ => rfl) ?_
      exact dw_j rfl (fun lv1 hv => k21 x1 x2 (x3 + (1 : Int32)) m lv1 (hv.1 _ rfl) (hv.2.1 _ rfl) (hv.2.2.1 _ rfl) (hv.2.2.2.1 _ rfl))
    · refine dw_g rfl ?_
      refine dg_s (pc' := 49) [.ref x0] rfl (fun _ => rfl) rfl ?_
      refine dg_s (pc' := 52) [.ref (x0 + 7)] rfl (fun _ => rfl) rfl ?_
      refine dg_s (pc' := 54) [.int x4, .ref (x0 + 7)] rfl (fun _ => rfl) rfl ?_
      refine dg_s (pc' := 55) [.int (m.1 (x0 + 7) (Int32.toNatClampNeg x4))] rfl (fun _ => rfl) rfl ?_
      refine dw_if (fun t => Φ (Option.bind t (dc_bk (d_X7_findHome_l43s x0 x2 x3)))) (¬ (Int32.toInt (m.1 (x0 + 7) (Int32.toNatClampNeg x4))) = 0) [] 78 58 rfl (fun _ => rfl) (fun c1 => ?_) (fun c1 => ?_)
      · refine dw_g rfl ?_
        refine dg_L (pc' := 81) [(4, .int (x4 + (-1))), (0, .ref x0), (1, .int x1), (2, .int x2), (3, .int x3)] [] rfl (fun _ => rfl) rfl ?_
        refine dw_s (pc' := 43) [] rfl (fun _ => rfl) ?_
        exact dw_j rfl (fun lv1 hv => ih x1 (x4 + (-1)) m lv1 (hv.1 _ rfl) (hv.2.1 _ rfl) (hv.2.2.1 _ rfl) (hv.2.2.2.1 _ rfl) (hv.2.2.2.2.1 _ rfl))
      · refine dw_g rfl ?_
        refine dg_s (pc' := 59) [.ref x0] rfl (fun _ => rfl) rfl ?_
        refine dg_s (pc' := 61) [.int x4, .ref x0] rfl (fun _ => rfl) rfl ?_
        refine dw_b (fun t => Φ (Option.bind t (dc_bk (d_X7_findHome_l43s x0 x2 x3)))) (pc' := 64) (fun q1 => [.int q1]) (fun q1 => m) rfl (fun _ => rfl) (fun q1 => ?_)
        refine dw_g rfl ?_
        refine dw_if (fun t => Φ (Option.bind t (dc_bk (d_X7_findHome_l43s x0 x2 x3)))) ((Int32.toInt q1) = 0) [] 78 67 rfl (fun _ => rfl) (fun c2 => ?_) (fun c2 => ?_)
        · refine dw_g rfl ?_
          refine dg_L (pc' := 81) [(4, .int (x4 + (-1))), (0, .ref x0), (1, .int x1), (2, .int x2), (3, .int x3)] [] rfl (fun _ => rfl) rfl ?_
          refine dw_s (pc' := 43) [] rfl (fun _ => rfl) ?_
          exact dw_j rfl (fun lv1 hv => ih x1 (x4 + (-1)) m lv1 (hv.1 _ rfl) (hv.2.1 _ rfl) (hv.2.2.1 _ rfl) (hv.2.2.2.1 _ rfl) (hv.2.2.2.2.1 _ rfl))
        · refine dw_g rfl ?_
          refine dg_s (pc' := 68) [.ref x0] rfl (fun _ => rfl) rfl ?_
          refine dg_s (pc' := 71) [.ref (x0 + 7)] rfl (fun _ => rfl) rfl ?_
          refine dg_s (pc' := 73) [.int x4, .ref (x0 + 7)] rfl (fun _ => rfl) rfl ?_
          refine dg_s (pc' := 74) [.int (1 : Int32), .int x4, .ref (x0 + 7)] rfl (fun _ => rfl) rfl ?_
          refine dg_m (pc' := 75) (dc_wi m (x0 + 7) (Int32.toNatClampNeg x4) (1 : Int32)) [] rfl (fun _ => rfl) rfl ?_
          refine dg_L (pc' := 78) [(1, .int (x1 + (1 : Int32))), (0, .ref x0), (2, .int x2), (3, .int x3), (4, .int x4)] [] rfl (fun _ => rfl) rfl ?_
          refine dg_L (pc' := 81) [(4, .int (x4 + (-1))), (1, .int (x1 + (1 : Int32))), (0, .ref x0), (2, .int x2), (3, .int x3)] [] rfl (fun _ => rfl) rfl ?_
          refine dw_s (pc' := 43) [] rfl (fun _ => rfl) ?_
          exact dw_j rfl (fun lv1 hv => ih (x1 + (1 : Int32)) (x4 + (-1)) (dc_wi m (x0 + 7) (Int32.toNatClampNeg x4) (1 : Int32)) lv1 (hv.1 _ rfl) (hv.2.1 _ rfl) (hv.2.2.1 _ rfl) (hv.2.2.2.1 _ rfl) (hv.2.2.2.2.1 _ rfl))
noncomputable def d_X7_findHome_l21b (x0 : Nat) (x1 : Int32) (x2 : Int32) (x3 : Int32) (m : dc_M) : Option ((Int32 × Int32 × Int32 × dc_M) ⊕ (Int32 × dc_M)) :=
  (if 200 ≤ (Int32.toInt x3) then some (Sum.inr ((x1, m))) else (if (Int32.toInt x1) ≤ (Int32.toInt x2) then some (Sum.inr ((x1, m))) else (d_X7_findHome_l43 x0 x1 x3 x1 ((m.1 x0 0) - (1 : Int32)) m)))
noncomputable def d_X7_findHome_l21s (x0 : Nat) : (Int32 × Int32 × Int32 × dc_M) → Option ((Int32 × Int32 × Int32 × dc_M) ⊕ (Int32 × dc_M)) := fun s => d_X7_findHome_l21b x0 s.1 s.2.1 s.2.2.1 s.2.2.2
noncomputable def d_X7_findHome_l21 (x0 : Nat) (x1 : Int32) (x2 : Int32) (x3 : Int32) (m : dc_M) : Option (Int32 × dc_M) := dc_lp (d_X7_findHome_l21s x0) (x1, x2, x3, m)
set_option maxHeartbeats 8000000 in
theorem k_X7_findHome_l21 {u : Nat} {Φ : (Option (Int32 × dc_M)) → Option Value → dc_M → Prop} (x0 : Nat) (kR : ∀ (v : Int32) (m : dc_M), Φ (some ((v, m))) (some (.int v)) m) : ∀ (N : Nat), ∀ (x1 : Int32) (x2 : Int32) (x3 : Int32) (m : dc_M) (lv : ab_L), ab_lk lv 0 = some (.ref x0) → ab_lk lv 1 = some (.int x1) → ab_lk lv 2 = some (.int x2) → ab_lk lv 3 = some (.int x3) → dc_pv u N ab_M_X7_findHome 21 lv [] m (Φ (d_X7_findHome_l21 x0 x1 x2 x3 m)) := by
  intro N
  induction N with
  | zero => intros; exact dc_pv_zero
  | succ N ih =>
    intro x1 x2 x3 m lv f0 f1 f2 f3
    refine dc_ok (C := C_X7_findHome) (S := S_X7_findHome) CO_X7_findHome 400 21 [(0, .ref x0), (1, .int x1), (2, .int x2), (3, .int x3)] lv [] m (dc_sub_cons f0 (dc_sub_cons f1 (dc_sub_cons f2 (dc_sub_cons f3 (dc_sub_nil))))) ?_
    unfold d_X7_findHome_l21
    rw [dc_lp_eq]
    show (fun t x => dc_lf u N ab_M_X7_findHome (Φ (Option.bind t (dc_bk (d_X7_findHome_l21s x0)))) x) (d_X7_findHome_l21b x0 x1 x2 x3 m) _
    dsimp only
    unfold d_X7_findHome_l21b
    refine dg_s (pc' := 22) [.int x3] rfl (fun _ => rfl) rfl ?_
    refine dg_s (pc' := 25) [.int (200 : Int32), .int x3] rfl (fun _ => rfl) rfl ?_
    refine dw_if (fun t => Φ (Option.bind t (dc_bk (d_X7_findHome_l21s x0)))) (200 ≤ (Int32.toInt x3)) [] 90 28 rfl (fun _ => rfl) (fun c0 => ?_) (fun c0 => ?_)
    · refine dw_g rfl ?_
      refine dg_s (pc' := 91) [.int x1] rfl (fun _ => rfl) rfl ?_
      exact dw_r (some (.inl (some (.int x1), m))) rfl (fun _ => rfl) (kR _ _)
    · refine dw_g rfl ?_
      refine dg_s (pc' := 29) [.int x1] rfl (fun _ => rfl) rfl ?_
      refine dg_s (pc' := 30) [.int x2, .int x1] rfl (fun _ => rfl) rfl ?_
      refine dw_if (fun t => Φ (Option.bind t (dc_bk (d_X7_findHome_l21s x0)))) ((Int32.toInt x1) ≤ (Int32.toInt x2)) [] 90 33 rfl (fun _ => rfl) (fun c1 => ?_) (fun c1 => ?_)
      · refine dw_g rfl ?_
        refine dg_s (pc' := 91) [.int x1] rfl (fun _ => rfl) rfl ?_
        exact dw_r (some (.inl (some (.int x1), m))) rfl (fun _ => rfl) (kR _ _)
      · refine dw_g rfl ?_
        refine dg_s (pc' := 34) [.int x1] rfl (fun _ => rfl) rfl ?_
        refine dg_L (pc' := 35) [(2, .int x1), (0, .ref x0), (1, .int x1), (3, .int x3)] [] rfl (fun _ => rfl) rfl ?_
        refine dg_s (pc' := 36) [.ref x0] rfl (fun _ => rfl) rfl ?_
        refine dg_s (pc' := 39) [.int (m.1 x0 0)] rfl (fun _ => rfl) rfl ?_
        refine dg_s (pc' := 40) [.int (1 : Int32), .int (m.1 x0 0)] rfl (fun _ => rfl) rfl ?_
        refine dg_s (pc' := 41) [.int ((m.1 x0 0) - (1 : Int32))] rfl (fun _ => rfl) rfl ?_
        refine dw_L (pc' := 43) [(4, .int ((m.1 x0 0) - (1 : Int32))), (2, .int x1), (0, .ref x0), (1, .int x1), (3, .int x3)] [] rfl (fun _ => rfl) ?_
        exact dw_j rfl (fun lv1 hv => k_X7_findHome_l43 (Φ := (fun t => Φ (Option.bind t (dc_bk (d_X7_findHome_l21s x0))))) x0 x1 x3 (fun _a _b => kR _a _b) N ih x1 ((m.1 x0 0) - (1 : Int32)) m lv1 (hv.1 _ rfl) (hv.2.1 _ rfl) (hv.2.2.1 _ rfl) (hv.2.2.2.1 _ rfl) (hv.2.2.2.2.1 _ rfl))
noncomputable def d_X7_findHome (x0 : Nat) (m : dc_M) : Option (Int32 × dc_M) :=
  ((d_J7_fill_53178 (x0 + 7) (0 : Int32) m).bind (fun q1 => (d_X7_findHome_l21 x0 (1 : Int32) (0 : Int32) (0 : Int32) (dc_wi q1 (x0 + 7) (Int32.toNatClampNeg (0 : Int32)) (1 : Int32)))))
set_option maxHeartbeats 8000000 in
theorem k_X7_findHome {u : Nat} {N : Nat} {Φ : (Option (Int32 × dc_M)) → Option Value → dc_M → Prop} (x0 : Nat) (m : dc_M) (kR : ∀ (v : Int32) (m : dc_M), Φ (some ((v, m))) (some (.int v)) m)  {lv : ab_L} (f0 : ab_lk lv 0 = some (.ref x0)) : dc_pv u N ab_M_X7_findHome 0 lv [] m (Φ (d_X7_findHome x0 m)) := by
  refine dc_pv.mono (dc_ok (C := C_X7_findHome) (S := S_X7_findHome) CO_X7_findHome 400 0 [(0, .ref x0)] lv [] m (dc_sub_cons f0 (dc_sub_nil)) ?_) (Nat.le_succ N)
  unfold d_X7_findHome
  refine dg_s (pc' := 1) [.ref x0] rfl (fun _ => rfl) rfl ?_
  refine dg_s (pc' := 4) [.ref (x0 + 7)] rfl (fun _ => rfl) rfl ?_
  refine dg_s (pc' := 5) [.int (0 : Int32), .ref (x0 + 7)] rfl (fun _ => rfl) rfl ?_
  refine dw_b (fun t => Φ t) (pc' := 8) (fun q1 => []) (fun q1 => q1) rfl (fun _ => rfl) (fun q1 => ?_)
  refine dw_g rfl ?_
  refine dg_s (pc' := 9) [.ref x0] rfl (fun _ => rfl) rfl ?_
  refine dg_s (pc' := 12) [.ref (x0 + 7)] rfl (fun _ => rfl) rfl ?_
  refine dg_s (pc' := 13) [.int (0 : Int32), .ref (x0 + 7)] rfl (fun _ => rfl) rfl ?_
  refine dg_s (pc' := 14) [.int (1 : Int32), .int (0 : Int32), .ref (x0 + 7)] rfl (fun _ => rfl) rfl ?_
  refine dg_m (pc' := 15) (dc_wi q1 (x0 + 7) (Int32.toNatClampNeg (0 : Int32)) (1 : Int32)) [] rfl (fun _ => rfl) rfl ?_
  refine dg_s (pc' := 16) [.int (1 : Int32)] rfl (fun _ => rfl) rfl ?_
  refine dg_L (pc' := 17) [(1, .int (1 : Int32)), (0, .ref x0)] [] rfl (fun _ => rfl) rfl ?_
  refine dg_s (pc' := 18) [.int (0 : Int32)] rfl (fun _ => rfl) rfl ?_
  refine dg_L (pc' := 19) [(2, .int (0 : Int32)), (1, .int (1 : Int32)), (0, .ref x0)] [] rfl (fun _ => rfl) rfl ?_
  refine dg_s (pc' := 20) [.int (0 : Int32)] rfl (fun _ => rfl) rfl ?_
  refine dw_L (pc' := 21) [(3, .int (0 : Int32)), (2, .int (0 : Int32)), (1, .int (1 : Int32)), (0, .ref x0)] [] rfl (fun _ => rfl) ?_
  exact dw_j rfl (fun lv1 hv => k_X7_findHome_l21 (Φ := (fun t => Φ t)) x0 (fun _a _b => kR _a _b) N  (1 : Int32) (0 : Int32) (0 : Int32) (dc_wi q1 (x0 + 7) (Int32.toNatClampNeg (0 : Int32)) (1 : Int32)) lv1 (hv.1 _ rfl) (hv.2.1 _ rfl) (hv.2.2.1 _ rfl) (hv.2.2.2.1 _ rfl))
noncomputable def H_X7_findHome : dc_H := fun As m k => match As with
  | [.ref x0] => (d_X7_findHome x0 m).bind (fun q => k (some (.int q.1)) q.2)
  | _ => dc_kz
theorem H_X7_findHome_ok {u : Nat} : dc_cok u 87 H_X7_findHome := fun M' hG N As m k P hz hP => by
  obtain rfl : ab_M_X7_findHome = M' := Option.some.inj hG
  unfold H_X7_findHome at hP
  split at hP
  · rename_i x0
    exact dc_pv.imp (k_X7_findHome (Φ := fun (t : Option (Int32 × dc_M)) r m' => P (t.bind (fun q => k (some (.int q.1)) q.2)) → P (k r m')) x0 m (fun _ _ h => h) rfl) (fun r m' h => h hP)
  · exact absurd hP hz
noncomputable def C_X7_astray : List (Nat × dc_H) := [(87, H_X7_findHome)]
theorem CO_X7_astray {u : Nat} : dc_CO u C_X7_astray := dc_CO_cons H_X7_findHome_ok (dc_CO_nil)
def S_X7_astray : List (Nat × List Nat) := []
noncomputable def d_X7_astray (x0 : Nat) (m : dc_M) : Option (Int32 × dc_M) :=
  (if ¬ (Int32.toInt (m.1 x0 11)) = (-100) then some (((m.1 x0 11), m)) else ((d_X7_findHome x0 m).bind (fun q1 => some ((((dc_wi q1.2 x0 11 ((m.1 x0 0) - q1.1)).1 x0 11), (dc_wi q1.2 x0 11 ((m.1 x0 0) - q1.1)))))))
set_option maxHeartbeats 8000000 in
theorem k_X7_astray {u : Nat} {N : Nat} {Φ : (Option (Int32 × dc_M)) → Option Value → dc_M → Prop} (x0 : Nat) (m : dc_M) (kR : ∀ (v : Int32) (m : dc_M), Φ (some ((v, m))) (some (.int v)) m)  {lv : ab_L} (f0 : ab_lk lv 0 = some (.ref x0)) : dc_pv u N ab_M_X7_astray 0 lv [] m (Φ (d_X7_astray x0 m)) := by
  refine dc_pv.mono (dc_ok (C := C_X7_astray) (S := S_X7_astray) CO_X7_astray 400 0 [(0, .ref x0)] lv [] m (dc_sub_cons f0 (dc_sub_nil)) ?_) (Nat.le_succ N)
  unfold d_X7_astray
  refine dg_s (pc' := 1) [.ref x0] rfl (fun _ => rfl) rfl ?_
  refine dg_s (pc' := 4) [.int (m.1 x0 11)] rfl (fun _ => rfl) rfl ?_
  refine dg_s (pc' := 6) [.int (-100 : Int32), .int (m.1 x0 11)] rfl (fun _ => rfl) rfl ?_
  refine dw_if (fun t => Φ t) (¬ (Int32.toInt (m.1 x0 11)) = (-100)) [] 22 9 rfl (fun _ => rfl) (fun c0 => ?_) (fun c0 => ?_)
  · refine dw_g rfl ?_
    refine dg_s (pc' := 23) [.ref x0] rfl (fun _ => rfl) rfl ?_
    refine dg_s (pc' := 26) [.int (m.1 x0 11)] rfl (fun _ => rfl) rfl ?_
    exact dw_r (some (.inl (some (.int (m.1 x0 11)), m))) rfl (fun _ => rfl) (kR _ _)
  · refine dw_g rfl ?_
    refine dg_s (pc' := 10) [.ref x0] rfl (fun _ => rfl) rfl ?_
    refine dg_s (pc' := 11) [.ref x0, .ref x0] rfl (fun _ => rfl) rfl ?_
    refine dg_s (pc' := 14) [.int (m.1 x0 0), .ref x0] rfl (fun _ => rfl) rfl ?_
    refine dg_s (pc' := 15) [.ref x0, .int (m.1 x0 0), .ref x0] rfl (fun _ => rfl) rfl ?_
    refine dw_b (fun t => Φ t) (pc' := 18) (fun q1 => [.int q1.1, .int (m.1 x0 0), .ref x0]) (fun q1 => q1.2) rfl (fun _ => rfl) (fun q1 => ?_)
    refine dw_g rfl ?_
    refine dg_s (pc' := 19) [.int ((m.1 x0 0) - q1.1), .ref x0] rfl (fun _ => rfl) rfl ?_
    refine dg_m (pc' := 22) (dc_wi q1.2 x0 11 ((m.1 x0 0) - q1.1)) [] rfl (fun _ => rfl) rfl ?_
    refine dg_s (pc' := 23) [.ref x0] rfl (fun _ => rfl) rfl ?_
    refine dg_s (pc' := 26) [.int ((dc_wi q1.2 x0 11 ((m.1 x0 0) - q1.1)).1 x0 11)] rfl (fun _ => rfl) rfl ?_
    exact dw_r (some (.inl (some (.int ((dc_wi q1.2 x0 11 ((m.1 x0 0) - q1.1)).1 x0 11)), (dc_wi q1.2 x0 11 ((m.1 x0 0) - q1.1))))) rfl (fun _ => rfl) (kR _ _)
noncomputable def H_X7_astray : dc_H := fun As m k => match As with
  | [.ref x0] => (d_X7_astray x0 m).bind (fun q => k (some (.int q.1)) q.2)
  | _ => dc_kz
theorem H_X7_astray_ok {u : Nat} : dc_cok u 86 H_X7_astray := fun M' hG N As m k P hz hP => by
  obtain rfl : ab_M_X7_astray = M' := Option.some.inj hG
  unfold H_X7_astray at hP
  split at hP
  · rename_i x0
    exact dc_pv.imp (k_X7_astray (Φ := fun (t : Option (Int32 × dc_M)) r m' => P (t.bind (fun q => k (some (.int q.1)) q.2)) → P (k r m')) x0 m (fun _ _ h => h) rfl) (fun r m' h => h hP)
  · exact absurd hP hz
def C_X8_gather : List (Nat × dc_H) := [(83, H_X7_aims)]
theorem CO_X8_gather {u : Nat} : dc_CO u C_X8_gather := dc_CO_cons H_X7_aims_ok (dc_CO_nil)
def S_X8_gather : List (Nat × List Nat) := [(17, [0, 2, 3]), (57, [0, 2, 3]), (85, [0, 2, 3, 4, 6, 7])]
noncomputable def d_X8_gather_l85b (x0 : Nat) (x2 : Nat) (x3 : Int32) (x4 : Int64) (x6 : Int32) (x7 : Int32) (m : dc_M) : Option ((Int32 × dc_M) ⊕ ((Int32 × dc_M) ⊕ dc_M)) :=
  (if (Int32.toInt (m.1 x0 6)) ≤ (Int32.toInt x7) then some (Sum.inr (Sum.inl ((x3 + (1 : Int32)), m))) else (if (Int32.toInt ((x6 >>> (x7 &&& 31)) &&& (1 : Int32))) = 0 then some (Sum.inl ((x7 + (1 : Int32)), (dc_wl m (x0 + 2) (Int32.toNatClampNeg x7) ((m.2.1 (x0 + 2) (Int32.toNatClampNeg x7)) ||| x4)))) else some (Sum.inl ((x7 + (1 : Int32)), (dc_wl m (x0 + 1) (Int32.toNatClampNeg x7) ((m.2.1 (x0 + 1) (Int32.toNatClampNeg x7)) ||| x4))))))
noncomputable def d_X8_gather_l85s (x0 : Nat) (x2 : Nat) (x3 : Int32) (x4 : Int64) (x6 : Int32) : (Int32 × dc_M) → Option ((Int32 × dc_M) ⊕ ((Int32 × dc_M) ⊕ dc_M)) := fun s => d_X8_gather_l85b x0 x2 x3 x4 x6 s.1 s.2
noncomputable def d_X8_gather_l85 (x0 : Nat) (x2 : Nat) (x3 : Int32) (x4 : Int64) (x6 : Int32) (x7 : Int32) (m : dc_M) : Option ((Int32 × dc_M) ⊕ dc_M) := dc_lp (d_X8_gather_l85s x0 x2 x3 x4 x6) (x7, m)
set_option maxHeartbeats 8000000 in
theorem k_X8_gather_l85 {u : Nat} {Φ : (Option ((Int32 × dc_M) ⊕ dc_M)) → Option Value → dc_M → Prop} (x0 : Nat) (x2 : Nat) (x3 : Int32) (x4 : Int64) (x6 : Int32) (kR : ∀  (m : dc_M), Φ (some (Sum.inr (m))) (none) m) : ∀ (N : Nat), (∀ (x3 : Int32) (m : dc_M) (lv : ab_L), ab_lk lv 0 = some (.ref x0) → ab_lk lv 2 = some (.ref x2) → ab_lk lv 3 = some (.int x3) →  dc_pv u N ab_M_X8_gather 57 lv [] m (Φ (some (Sum.inl (x3, m))))) → ∀ (x7 : Int32) (m : dc_M) (lv : ab_L), ab_lk lv 0 = some (.ref x0) → ab_lk lv 2 = some (.ref x2) → ab_lk lv 3 = some (.int x3) → ab_lk lv 4 = some (.long x4) → ab_lk lv 6 = some (.int x6) → ab_lk lv 7 = some (.int x7) → dc_pv u N ab_M_X8_gather 85 lv [] m (Φ (d_X8_gather_l85 x0 x2 x3 x4 x6 x7 m)) := by
  intro N
  induction N with
  | zero => intros; exact dc_pv_zero
  | succ N ih =>
    intro k57 x7 m lv f0 f2 f3 f4 f6 f7
    have k57 := fun a0 a1 a2 a3 a4 a5 => (k57 a0 a1 a2 a3 a4 a5).mono (Nat.le_succ N)
    have ih := ih k57
    refine dc_ok (C := C_X8_gather) (S := S_X8_gather) CO_X8_gather 400 85 [(0, .ref x0), (2, .ref x2), (3, .int x3), (4, .long x4), (6, .int x6), (7, .int x7)] lv [] m (dc_sub_cons f0 (dc_sub_cons f2 (dc_sub_cons f3 (dc_sub_cons f4 (dc_sub_cons f6 (dc_sub_cons f7 (dc_sub_nil))))))) ?_
    unfold d_X8_gather_l85
    rw [dc_lp_eq]
    show (fun t x => dc_lf u N ab_M_X8_gather (Φ (Option.bind t (dc_bk (d_X8_gather_l85s x0 x2 x3 x4 x6)))) x) (d_X8_gather_l85b x0 x2 x3 x4 x6 x7 m) _
    dsimp only
    unfold d_X8_gather_l85b
    refine dg_s (pc' := 87) [.int x7] rfl (fun _ => rfl) rfl ?_
    refine dg_s (pc' := 88) [.ref x0, .int x7] rfl (fun _ => rfl) rfl ?_
    refine dg_s (pc' := 91) [.int (m.1 x0 6), .int x7] rfl (fun _ => rfl) rfl ?_
    refine dw_if (fun t => Φ (Option.bind t (dc_bk (d_X8_gather_l85s x0 x2 x3 x4 x6)))) ((Int32.toInt (m.1 x0 6)) ≤ (Int32.toInt x7)) [] 137 94 rfl (fun _ => rfl) (fun c0 => ?_) (fun c0 => ?_)
    · refine dw_g rfl ?_
      refine dg_L (pc' := 140) [(3, .int (x3 + (1 : Int32))), (0, .ref x0), (2, .ref x2), (4, .long x4), (6, .int x6), (7, .int x7)] [] rfl (fun _ => rfl) rfl ?_
      refine dw_s (pc' := 57) [] rfl (fun _ => rfl) ?_
      exact dw_j rfl (fun lv1 hv => k57 (x3 + (1 : Int32)) m lv1 (hv.1 _ rfl) (hv.2.1 _ rfl) (hv.2.2.1 _ rfl))
    · refine dw_g rfl ?_
      refine dg_s (pc' := 96) [.int x6] rfl (fun _ => rfl) rfl ?_
      refine dg_s (pc' := 98) [.int x7, .int x6] rfl (fun _ => rfl) rfl ?_
      refine dg_s (pc' := 99) [.int (x6 >>> (x7 &&& 31))] rfl (fun _ => rfl) rfl ?_
      refine dg_s (pc' := 100) [.int (1 : Int32), .int (x6 >>> (x7 &&& 31))] rfl (fun _ => rfl) rfl ?_
      refine dg_s (pc' := 101) [.int ((x6 >>> (x7 &&& 31)) &&& (1 : Int32))] rfl (fun _ => rfl) rfl ?_
      refine dw_if (fun t => Φ (Option.bind t (dc_bk (d_X8_gather_l85s x0 x2 x3 x4 x6)))) ((Int32.toInt ((x6 >>> (x7 &&& 31)) &&& (1 : Int32))) = 0) [] 119 104 rfl (fun _ => rfl) (fun c1 => ?_) (fun c1 => ?_)
      · refine dw_g rfl ?_
        refine dg_s (pc' := 120) [.ref x0] rfl (fun _ => rfl) rfl ?_
        refine dg_s (pc' := 123) [.ref (x0 + 2)] rfl (fun _ => rfl) rfl ?_
        refine dg_s (pc' := 125) [.int x7, .ref (x0 + 2)] rfl (fun _ => rfl) rfl ?_
        refine dg_s (pc' := 126) [.int x7, .ref (x0 + 2), .int x7, .ref (x0 + 2)] rfl (fun _ => rfl) rfl ?_
        refine dg_s (pc' := 127) [.long (m.2.1 (x0 + 2) (Int32.toNatClampNeg x7)), .int x7, .ref (x0 + 2)] rfl (fun _ => rfl) rfl ?_
        refine dg_s (pc' := 129) [.long x4, .long (m.2.1 (x0 + 2) (Int32.toNatClampNeg x7)), .int x7, .ref (x0 + 2)] rfl (fun _ => rfl) rfl ?_
        refine dg_s (pc' := 130) [.long ((m.2.1 (x0 + 2) (Int32.toNatClampNeg x7)) ||| x4), .int x7, .ref (x0 + 2)] rfl (fun _ => rfl) rfl ?_
        refine dg_m (pc' := 131) (dc_wl m (x0 + 2) (Int32.toNatClampNeg x7) ((m.2.1 (x0 + 2) (Int32.toNatClampNeg x7)) ||| x4)) [] rfl (fun _ => rfl) rfl ?_
        refine dg_L (pc' := 134) [(7, .int (x7 + (1 : Int32))), (0, .ref x0), (2, .ref x2), (3, .int x3), (4, .long x4), (6, .int x6)] [] rfl (fun _ => rfl) rfl ?_
        refine dw_s (pc' := 85) [] rfl (fun _ => rfl) ?_
        exact dw_j rfl (fun lv1 hv => ih (x7 + (1 : Int32)) (dc_wl m (x0 + 2) (Int32.toNatClampNeg x7) ((m.2.1 (x0 + 2) (Int32.toNatClampNeg x7)) ||| x4)) lv1 (hv.1 _ rfl) (hv.2.1 _ rfl) (hv.2.2.1 _ rfl) (hv.2.2.2.1 _ rfl) (hv.2.2.2.2.1 _ rfl) (hv.2.2.2.2.2.1 _ rfl))
      · refine dw_g rfl ?_
        refine dg_s (pc' := 105) [.ref x0] rfl (fun _ => rfl) rfl ?_
        refine dg_s (pc' := 108) [.ref (x0 + 1)] rfl (fun _ => rfl) rfl ?_
        refine dg_s (pc' := 110) [.int x7, .ref (x0 + 1)] rfl (fun _ => rfl) rfl ?_
        refine dg_s (pc' := 111) [.int x7, .ref (x0 + 1), .int x7, .ref (x0 + 1)] rfl (fun _ => rfl) rfl ?_
        refine dg_s (pc' := 112) [.long (m.2.1 (x0 + 1) (Int32.toNatClampNeg x7)), .int x7, .ref (x0 + 1)] rfl (fun _ => rfl) rfl ?_
        refine dg_s (pc' := 114) [.long x4, .long (m.2.1 (x0 + 1) (Int32.toNatClampNeg x7)), .int x7, .ref (x0 + 1)] rfl (fun _ => rfl) rfl ?_
        refine dg_s (pc' := 115) [.long ((m.2.1 (x0 + 1) (Int32.toNatClampNeg x7)) ||| x4), .int x7, .ref (x0 + 1)] rfl (fun _ => rfl) rfl ?_
        refine dg_m (pc' := 116) (dc_wl m (x0 + 1) (Int32.toNatClampNeg x7) ((m.2.1 (x0 + 1) (Int32.toNatClampNeg x7)) ||| x4)) [] rfl (fun _ => rfl) rfl ?_
        refine dg_s (pc' := 131) [] rfl (fun _ => rfl) rfl ?_
        refine dg_L (pc' := 134) [(7, .int (x7 + (1 : Int32))), (0, .ref x0), (2, .ref x2), (3, .int x3), (4, .long x4), (6, .int x6)] [] rfl (fun _ => rfl) rfl ?_
        refine dw_s (pc' := 85) [] rfl (fun _ => rfl) ?_
        exact dw_j rfl (fun lv1 hv => ih (x7 + (1 : Int32)) (dc_wl m (x0 + 1) (Int32.toNatClampNeg x7) ((m.2.1 (x0 + 1) (Int32.toNatClampNeg x7)) ||| x4)) lv1 (hv.1 _ rfl) (hv.2.1 _ rfl) (hv.2.2.1 _ rfl) (hv.2.2.2.1 _ rfl) (hv.2.2.2.2.1 _ rfl) (hv.2.2.2.2.2.1 _ rfl))
noncomputable def d_X8_gather_l57b (x0 : Nat) (x2 : Nat) (x3 : Int32) (m : dc_M) : Option ((Int32 × dc_M) ⊕ dc_M) :=
  (if (Int32.toInt (m.1 x2 0)) ≤ (Int32.toInt x3) then some (Sum.inr (m)) else (d_X8_gather_l85 x0 x2 x3 ((1 : Int64) <<< (Int32.toInt64 (m.1 (x2 + 3) (Int32.toNatClampNeg x3)) &&& 63)) (d_X7_aims x2 x3 m) (0 : Int32) m))
noncomputable def d_X8_gather_l57s (x0 : Nat) (x2 : Nat) : (Int32 × dc_M) → Option ((Int32 × dc_M) ⊕ dc_M) := fun s => d_X8_gather_l57b x0 x2 s.1 s.2
noncomputable def d_X8_gather_l57 (x0 : Nat) (x2 : Nat) (x3 : Int32) (m : dc_M) : Option dc_M := dc_lp (d_X8_gather_l57s x0 x2) (x3, m)
set_option maxHeartbeats 8000000 in
theorem k_X8_gather_l57 {u : Nat} {Φ : (Option dc_M) → Option Value → dc_M → Prop} (x0 : Nat) (x2 : Nat) (kR : ∀  (m : dc_M), Φ (some (m)) (none) m) : ∀ (N : Nat), ∀ (x3 : Int32) (m : dc_M) (lv : ab_L), ab_lk lv 0 = some (.ref x0) → ab_lk lv 2 = some (.ref x2) → ab_lk lv 3 = some (.int x3) → dc_pv u N ab_M_X8_gather 57 lv [] m (Φ (d_X8_gather_l57 x0 x2 x3 m)) := by
  intro N
  induction N with
  | zero => intros; exact dc_pv_zero
  | succ N ih =>
    intro x3 m lv f0 f2 f3
    refine dc_ok (C := C_X8_gather) (S := S_X8_gather) CO_X8_gather 400 57 [(0, .ref x0), (2, .ref x2), (3, .int x3)] lv [] m (dc_sub_cons f0 (dc_sub_cons f2 (dc_sub_cons f3 (dc_sub_nil)))) ?_
    unfold d_X8_gather_l57
    rw [dc_lp_eq]
    show (fun t x => dc_lf u N ab_M_X8_gather (Φ (Option.bind t (dc_bk (d_X8_gather_l57s x0 x2)))) x) (d_X8_gather_l57b x0 x2 x3 m) _
    dsimp only
    unfold d_X8_gather_l57b
    refine dg_s (pc' := 58) [.int x3] rfl (fun _ => rfl) rfl ?_
    refine dg_s (pc' := 59) [.ref x2, .int x3] rfl (fun _ => rfl) rfl ?_
    refine dg_s (pc' := 62) [.int (m.1 x2 0), .int x3] rfl (fun _ => rfl) rfl ?_
    refine dw_if (fun t => Φ (Option.bind t (dc_bk (d_X8_gather_l57s x0 x2)))) ((Int32.toInt (m.1 x2 0)) ≤ (Int32.toInt x3)) [] 143 65 rfl (fun _ => rfl) (fun c0 => ?_) (fun c0 => ?_)
    · refine dw_g rfl ?_
      exact dw_r (some (.inl (none, m))) rfl (fun _ => rfl) (kR _)
    · refine dw_g rfl ?_
      refine dg_s (pc' := 66) [.long (1 : Int64)] rfl (fun _ => rfl) rfl ?_
      refine dg_s (pc' := 67) [.ref x2, .long (1 : Int64)] rfl (fun _ => rfl) rfl ?_
      refine dg_s (pc' := 70) [.ref (x2 + 3), .long (1 : Int64)] rfl (fun _ => rfl) rfl ?_
      refine dg_s (pc' := 71) [.int x3, .ref (x2 + 3), .long (1 : Int64)] rfl (fun _ => rfl) rfl ?_
      refine dg_s (pc' := 72) [.int (m.1 (x2 + 3) (Int32.toNatClampNeg x3)), .long (1 : Int64)] rfl (fun _ => rfl) rfl ?_
      refine dg_s (pc' := 73) [.long ((1 : Int64) <<< (Int32.toInt64 (m.1 (x2 + 3) (Int32.toNatClampNeg x3)) &&& 63))] rfl (fun _ => rfl) rfl ?_
      refine dg_L (pc' := 75) [(4, .long ((1 : Int64) <<< (Int32.toInt64 (m.1 (x2 + 3) (Int32.toNatClampNeg x3)) &&& 63))), (0, .ref x0), (2, .ref x2), (3, .int x3)] [] rfl (fun _ => rfl) rfl ?_
      refine dg_s (pc' := 76) [.ref x2] rfl (fun _ => rfl) rfl ?_
      refine dg_s (pc' := 77) [.int x3, .ref x2] rfl (fun _ => rfl) rfl ?_
      refine dg_s (pc' := 80) [.int (d_X7_aims x2 x3 m)] rfl (fun _ => rfl) rfl ?_
      refine dg_L (pc' := 82) [(6, .int (d_X7_aims x2 x3 m)), (4, .long ((1 : Int64) <<< (Int32.toInt64 (m.1 (x2 + 3) (Int32.toNatClampNeg x3)) &&& 63))), (0, .ref x0), (2, .ref x2), (3, .int x3)] [] rfl (fun _ => rfl) rfl ?_
      refine dg_s (pc' := 83) [.int (0 : Int32)] rfl (fun _ => rfl) rfl ?_
      refine dw_L (pc' := 85) [(7, .int (0 : Int32)), (6, .int (d_X7_aims x2 x3 m)), (4, .long ((1 : Int64) <<< (Int32.toInt64 (m.1 (x2 + 3) (Int32.toNatClampNeg x3)) &&& 63))), (0, .ref x0), (2, .ref x2), (3, .int x3)] [] rfl (fun _ => rfl) ?_
      exact dw_j rfl (fun lv1 hv => k_X8_gather_l85 (Φ := (fun t => Φ (Option.bind t (dc_bk (d_X8_gather_l57s x0 x2))))) x0 x2 x3 ((1 : Int64) <<< (Int32.toInt64 (m.1 (x2 + 3) (Int32.toNatClampNeg x3)) &&& 63)) (d_X7_aims x2 x3 m) (fun _b => kR _b) N ih (0 : Int32) m lv1 (hv.1 _ rfl) (hv.2.1 _ rfl) (hv.2.2.1 _ rfl) (hv.2.2.2.1 _ rfl) (hv.2.2.2.2.1 _ rfl) (hv.2.2.2.2.2.1 _ rfl))
noncomputable def d_X8_gather_l17b (x0 : Nat) (x2 : Nat) (x3 : Int32) (m : dc_M) : Option ((Int32 × dc_M) ⊕ dc_M) :=
  (if (Int32.toInt (m.1 x0 6)) ≤ (Int32.toInt x3) then ((d_X8_gather_l57 x0 x2 (0 : Int32) m).map (fun z => Sum.inr (z))) else some (Sum.inl ((x3 + (1 : Int32)), (dc_wl (dc_wl (dc_wi m x0 7 ((m.1 x0 7) * (3 : Int32))) (x0 + 1) (Int32.toNatClampNeg x3) (0 : Int64)) (x0 + 2) (Int32.toNatClampNeg x3) (0 : Int64)))))
noncomputable def d_X8_gather_l17s (x0 : Nat) (x2 : Nat) : (Int32 × dc_M) → Option ((Int32 × dc_M) ⊕ dc_M) := fun s => d_X8_gather_l17b x0 x2 s.1 s.2
noncomputable def d_X8_gather_l17 (x0 : Nat) (x2 : Nat) (x3 : Int32) (m : dc_M) : Option dc_M := dc_lp (d_X8_gather_l17s x0 x2) (x3, m)
set_option maxHeartbeats 8000000 in
theorem k_X8_gather_l17 {u : Nat} {Φ : (Option dc_M) → Option Value → dc_M → Prop} (x0 : Nat) (x2 : Nat) (kR : ∀  (m : dc_M), Φ (some (m)) (none) m) : ∀ (N : Nat), ∀ (x3 : Int32) (m : dc_M) (lv : ab_L), ab_lk lv 0 = some (.ref x0) → ab_lk lv 2 = some (.ref x2) → ab_lk lv 3 = some (.int x3) → dc_pv u N ab_M_X8_gather 17 lv [] m (Φ (d_X8_gather_l17 x0 x2 x3 m)) := by
  intro N
  induction N with
  | zero => intros; exact dc_pv_zero
  | succ N ih =>
    intro x3 m lv f0 f2 f3
    refine dc_ok (C := C_X8_gather) (S := S_X8_gather) CO_X8_gather 400 17 [(0, .ref x0), (2, .ref x2), (3, .int x3)] lv [] m (dc_sub_cons f0 (dc_sub_cons f2 (dc_sub_cons f3 (dc_sub_nil)))) ?_
    unfold d_X8_gather_l17
    rw [dc_lp_eq]
    show (fun t x => dc_lf u N ab_M_X8_gather (Φ (Option.bind t (dc_bk (d_X8_gather_l17s x0 x2)))) x) (d_X8_gather_l17b x0 x2 x3 m) _
    dsimp only
    unfold d_X8_gather_l17b
    refine dg_s (pc' := 18) [.int x3] rfl (fun _ => rfl) rfl ?_
    refine dg_s (pc' := 19) [.ref x0, .int x3] rfl (fun _ => rfl) rfl ?_
    refine dg_s (pc' := 22) [.int (m.1 x0 6), .int x3] rfl (fun _ => rfl) rfl ?_
    refine dw_if (fun t => Φ (Option.bind t (dc_bk (d_X8_gather_l17s x0 x2)))) ((Int32.toInt (m.1 x0 6)) ≤ (Int32.toInt x3)) [] 55 25 rfl (fun _ => rfl) (fun c0 => ?_) (fun c0 => ?_)
    · refine dw_g rfl ?_
      refine dg_s (pc' := 56) [.int (0 : Int32)] rfl (fun _ => rfl) rfl ?_
      refine dw_L (pc' := 57) [(3, .int (0 : Int32)), (0, .ref x0), (2, .ref x2)] [] rfl (fun _ => rfl) ?_
      exact dw_j rfl (fun lv1 hv => k_X8_gather_l57 (Φ := (fun t => Φ (Option.bind (t.map (fun z => Sum.inr (z))) (dc_bk (d_X8_gather_l17s x0 x2))))) x0 x2 (fun _b => kR _b) N  (0 : Int32) m lv1 (hv.1 _ rfl) (hv.2.1 _ rfl) (hv.2.2.1 _ rfl))
    · refine dw_g rfl ?_
      refine dg_s (pc' := 26) [.ref x0] rfl (fun _ => rfl) rfl ?_
      refine dg_s (pc' := 27) [.ref x0, .ref x0] rfl (fun _ => rfl) rfl ?_
      refine dg_s (pc' := 30) [.int (m.1 x0 7), .ref x0] rfl (fun _ => rfl) rfl ?_
      refine dg_s (pc' := 31) [.int (3 : Int32), .int (m.1 x0 7), .ref x0] rfl (fun _ => rfl) rfl ?_
      refine dg_s (pc' := 32) [.int ((m.1 x0 7) * (3 : Int32)), .ref x0] rfl (fun _ => rfl) rfl ?_
      refine dg_m (pc' := 35) (dc_wi m x0 7 ((m.1 x0 7) * (3 : Int32))) [] rfl (fun _ => rfl) rfl ?_
      refine dg_s (pc' := 36) [.ref x0] rfl (fun _ => rfl) rfl ?_
      refine dg_s (pc' := 39) [.ref (x0 + 1)] rfl (fun _ => rfl) rfl ?_
      refine dg_s (pc' := 40) [.int x3, .ref (x0 + 1)] rfl (fun _ => rfl) rfl ?_
      refine dg_s (pc' := 41) [.long (0 : Int64), .int x3, .ref (x0 + 1)] rfl (fun _ => rfl) rfl ?_
      refine dg_m (pc' := 42) (dc_wl (dc_wi m x0 7 ((m.1 x0 7) * (3 : Int32))) (x0 + 1) (Int32.toNatClampNeg x3) (0 : Int64)) [] rfl (fun _ => rfl) rfl ?_
      refine dg_s (pc' := 43) [.ref x0] rfl (fun _ => rfl) rfl ?_
      refine dg_s (pc' := 46) [.ref (x0 + 2)] rfl (fun _ => rfl) rfl ?_
      refine dg_s (pc' := 47) [.int x3, .ref (x0 + 2)] rfl (fun _ => rfl) rfl ?_
      refine dg_s (pc' := 48) [.long (0 : Int64), .int x3, .ref (x0 + 2)] rfl (fun _ => rfl) rfl ?_
      refine dg_m (pc' := 49) (dc_wl (dc_wl (dc_wi m x0 7 ((m.1 x0 7) * (3 : Int32))) (x0 + 1) (Int32.toNatClampNeg x3) (0 : Int64)) (x0 + 2) (Int32.toNatClampNeg x3) (0 : Int64)) [] rfl (fun _ => rfl) rfl ?_
      refine dg_L (pc' := 52) [(3, .int (x3 + (1 : Int32))), (0, .ref x0), (2, .ref x2)] [] rfl (fun _ => rfl) rfl ?_
      refine dw_s (pc' := 17) [] rfl (fun _ => rfl) ?_
      exact dw_j rfl (fun lv1 hv => ih (x3 + (1 : Int32)) (dc_wl (dc_wl (dc_wi m x0 7 ((m.1 x0 7) * (3 : Int32))) (x0 + 1) (Int32.toNatClampNeg x3) (0 : Int64)) (x0 + 2) (Int32.toNatClampNeg x3) (0 : Int64)) lv1 (hv.1 _ rfl) (hv.2.1 _ rfl) (hv.2.2.1 _ rfl))
noncomputable def d_X8_gather (x0 : Nat) (x1 : Int32) (x2 : Nat) (m : dc_M) : Option dc_M :=
  (d_X8_gather_l17 x0 x2 (0 : Int32) (dc_wi (dc_wi (dc_wi m x0 6 x1) x0 8 (0 : Int32)) x0 7 (1 : Int32)))
set_option maxHeartbeats 8000000 in
theorem k_X8_gather {u : Nat} {N : Nat} {Φ : (Option dc_M) → Option Value → dc_M → Prop} (x0 : Nat) (x1 : Int32) (x2 : Nat) (m : dc_M) (kR : ∀  (m : dc_M), Φ (some (m)) (none) m)  {lv : ab_L} (f0 : ab_lk lv 0 = some (.ref x0)) (f1 : ab_lk lv 1 = some (.int x1)) (f2 : ab_lk lv 2 = some (.ref x2)) : dc_pv u N ab_M_X8_gather 0 lv [] m (Φ (d_X8_gather x0 x1 x2 m)) := by
  refine dc_pv.mono (dc_ok (C := C_X8_gather) (S := S_X8_gather) CO_X8_gather 400 0 [(0, .ref x0), (1, .int x1), (2, .ref x2)] lv [] m (dc_sub_cons f0 (dc_sub_cons f1 (dc_sub_cons f2 (dc_sub_nil)))) ?_) (Nat.le_succ N)
  unfold d_X8_gather
  refine dg_s (pc' := 1) [.ref x0] rfl (fun _ => rfl) rfl ?_
  refine dg_s (pc' := 2) [.int x1, .ref x0] rfl (fun _ => rfl) rfl ?_
  refine dg_m (pc' := 5) (dc_wi m x0 6 x1) [] rfl (fun _ => rfl) rfl ?_
  refine dg_s (pc' := 6) [.ref x0] rfl (fun _ => rfl) rfl ?_
  refine dg_s (pc' := 7) [.int (0 : Int32), .ref x0] rfl (fun _ => rfl) rfl ?_
  refine dg_m (pc' := 10) (dc_wi (dc_wi m x0 6 x1) x0 8 (0 : Int32)) [] rfl (fun _ => rfl) rfl ?_
  refine dg_s (pc' := 11) [.ref x0] rfl (fun _ => rfl) rfl ?_
  refine dg_s (pc' := 12) [.int (1 : Int32), .ref x0] rfl (fun _ => rfl) rfl ?_
  refine dg_m (pc' := 15) (dc_wi (dc_wi (dc_wi m x0 6 x1) x0 8 (0 : Int32)) x0 7 (1 : Int32)) [] rfl (fun _ => rfl) rfl ?_
  refine dg_s (pc' := 16) [.int (0 : Int32)] rfl (fun _ => rfl) rfl ?_
  refine dw_L (pc' := 17) [(3, .int (0 : Int32)), (0, .ref x0), (1, .int x1), (2, .ref x2)] [] rfl (fun _ => rfl) ?_
  exact dw_j rfl (fun lv1 hv => k_X8_gather_l17 (Φ := (fun t => Φ t)) x0 x2 (fun _b => kR _b) N  (0 : Int32) (dc_wi (dc_wi (dc_wi m x0 6 x1) x0 8 (0 : Int32)) x0 7 (1 : Int32)) lv1 (hv.1 _ rfl) (hv.2.1 _ rfl) (hv.2.2.1 _ rfl))
noncomputable def H_X8_gather : dc_H := fun As m k => match As with
  | [.ref x0, .int x1, .ref x2] => (d_X8_gather x0 x1 x2 m).bind (fun q => k (none) q)
  | _ => dc_kz
theorem H_X8_gather_ok {u : Nat} : dc_cok u 93 H_X8_gather := fun M' hG N As m k P hz hP => by
  obtain rfl : ab_M_X8_gather = M' := Option.some.inj hG
  unfold H_X8_gather at hP
  split at hP
  · rename_i x0 x1 x2
    exact dc_pv.imp (k_X8_gather (Φ := fun (t : Option dc_M) r m' => P (t.bind (fun q => k (none) q)) → P (k r m')) x0 x1 x2 m (fun _ h => h) rfl rfl rfl) (fun r m' h => h hP)
  · exact absurd hP hz
def C_X8_hasUnlikeAims : List (Nat × dc_H) := []
theorem CO_X8_hasUnlikeAims {u : Nat} : dc_CO u C_X8_hasUnlikeAims := dc_CO_nil
def S_X8_hasUnlikeAims : List (Nat × List Nat) := []
def d_X8_hasUnlikeAims (x0 : Nat) (x1 : Int32) (m : dc_M) : Int32 :=
  (if (Int32.toInt (lg_cmp ((m.2.1 (x0 + 1) (Int32.toNatClampNeg x1)) &&& (m.2.1 (x0 + 2) (Int32.toNatClampNeg x1))) (0 : Int64))) = 0 then (0 : Int32) else (1 : Int32))
set_option maxHeartbeats 8000000 in
theorem k_X8_hasUnlikeAims {u : Nat} {N : Nat} {Φ : Int32 → Option Value → dc_M → Prop} (x0 : Nat) (x1 : Int32) (m : dc_M) (kR : ∀ (v : Int32), Φ (v) (some (.int v)) m)  {lv : ab_L} (f0 : ab_lk lv 0 = some (.ref x0)) (f1 : ab_lk lv 1 = some (.int x1)) : dc_pv u N ab_M_X8_hasUnlikeAims 0 lv [] m (Φ (d_X8_hasUnlikeAims x0 x1 m)) := by
  refine dc_pv.mono (dc_ok (C := C_X8_hasUnlikeAims) (S := S_X8_hasUnlikeAims) CO_X8_hasUnlikeAims 400 0 [(0, .ref x0), (1, .int x1)] lv [] m (dc_sub_cons f0 (dc_sub_cons f1 (dc_sub_nil))) ?_) (Nat.le_succ N)
  unfold d_X8_hasUnlikeAims
  refine dg_s (pc' := 1) [.ref x0] rfl (fun _ => rfl) rfl ?_
  refine dg_s (pc' := 4) [.ref (x0 + 1)] rfl (fun _ => rfl) rfl ?_
  refine dg_s (pc' := 5) [.int x1, .ref (x0 + 1)] rfl (fun _ => rfl) rfl ?_
  refine dg_s (pc' := 6) [.long (m.2.1 (x0 + 1) (Int32.toNatClampNeg x1))] rfl (fun _ => rfl) rfl ?_
  refine dg_s (pc' := 7) [.ref x0, .long (m.2.1 (x0 + 1) (Int32.toNatClampNeg x1))] rfl (fun _ => rfl) rfl ?_
  refine dg_s (pc' := 10) [.ref (x0 + 2), .long (m.2.1 (x0 + 1) (Int32.toNatClampNeg x1))] rfl (fun _ => rfl) rfl ?_
  refine dg_s (pc' := 11) [.int x1, .ref (x0 + 2), .long (m.2.1 (x0 + 1) (Int32.toNatClampNeg x1))] rfl (fun _ => rfl) rfl ?_
  refine dg_s (pc' := 12) [.long (m.2.1 (x0 + 2) (Int32.toNatClampNeg x1)), .long (m.2.1 (x0 + 1) (Int32.toNatClampNeg x1))] rfl (fun _ => rfl) rfl ?_
  refine dg_s (pc' := 13) [.long ((m.2.1 (x0 + 1) (Int32.toNatClampNeg x1)) &&& (m.2.1 (x0 + 2) (Int32.toNatClampNeg x1)))] rfl (fun _ => rfl) rfl ?_
  refine dg_s (pc' := 14) [.long (0 : Int64), .long ((m.2.1 (x0 + 1) (Int32.toNatClampNeg x1)) &&& (m.2.1 (x0 + 2) (Int32.toNatClampNeg x1)))] rfl (fun _ => rfl) rfl ?_
  refine dg_s (pc' := 15) [.int (lg_cmp ((m.2.1 (x0 + 1) (Int32.toNatClampNeg x1)) &&& (m.2.1 (x0 + 2) (Int32.toNatClampNeg x1))) (0 : Int64))] rfl (fun _ => rfl) rfl ?_
  refine dw_if (fun t => Φ t) ((Int32.toInt (lg_cmp ((m.2.1 (x0 + 1) (Int32.toNatClampNeg x1)) &&& (m.2.1 (x0 + 2) (Int32.toNatClampNeg x1))) (0 : Int64))) = 0) [] 22 18 rfl (fun _ => rfl) (fun c0 => ?_) (fun c0 => ?_)
  · refine dw_g rfl ?_
    refine dg_s (pc' := 23) [.int (0 : Int32)] rfl (fun _ => rfl) rfl ?_
    exact dw_r (some (.inl (some (.int (0 : Int32)), m))) rfl (fun _ => rfl) (kR _)
  · refine dw_g rfl ?_
    refine dg_s (pc' := 19) [.int (1 : Int32)] rfl (fun _ => rfl) rfl ?_
    refine dg_s (pc' := 23) [.int (1 : Int32)] rfl (fun _ => rfl) rfl ?_
    exact dw_r (some (.inl (some (.int (1 : Int32)), m))) rfl (fun _ => rfl) (kR _)
def H_X8_hasUnlikeAims : dc_H := fun As m k => match As with
  | [.ref x0, .int x1] => k (some (.int (d_X8_hasUnlikeAims x0 x1 m))) m
  | _ => dc_kz
theorem H_X8_hasUnlikeAims_ok {u : Nat} : dc_cok u 94 H_X8_hasUnlikeAims := fun M' hG N As m k P hz hP => by
  obtain rfl : ab_M_X8_hasUnlikeAims = M' := Option.some.inj hG
  unfold H_X8_hasUnlikeAims at hP
  split at hP
  · rename_i x0 x1
    exact dc_pv.imp (k_X8_hasUnlikeAims (Φ := fun (t : Int32) r m' => P (k (some (.int t)) m) → P (k r m')) x0 x1 m (fun _  h => h) rfl rfl) (fun r m' h => h hP)
  · exact absurd hP hz
def C_X8_isCube : List (Nat × dc_H) := []
theorem CO_X8_isCube {u : Nat} : dc_CO u C_X8_isCube := dc_CO_nil
def S_X8_isCube : List (Nat × List Nat) := []
def d_X8_isCube (x0 : Nat) (x1 : Int32) (m : dc_M) : Int32 :=
  (if (Int32.toInt x1) < 0 then (0 : Int32) else (if (Int32.toInt (m.1 x0 7)) ≤ (Int32.toInt x1) then (0 : Int32) else (1 : Int32)))
set_option maxHeartbeats 8000000 in
theorem k_X8_isCube {u : Nat} {N : Nat} {Φ : Int32 → Option Value → dc_M → Prop} (x0 : Nat) (x1 : Int32) (m : dc_M) (kR : ∀ (v : Int32), Φ (v) (some (.int v)) m)  {lv : ab_L} (f0 : ab_lk lv 0 = some (.ref x0)) (f1 : ab_lk lv 1 = some (.int x1)) : dc_pv u N ab_M_X8_isCube 0 lv [] m (Φ (d_X8_isCube x0 x1 m)) := by
  refine dc_pv.mono (dc_ok (C := C_X8_isCube) (S := S_X8_isCube) CO_X8_isCube 400 0 [(0, .ref x0), (1, .int x1)] lv [] m (dc_sub_cons f0 (dc_sub_cons f1 (dc_sub_nil))) ?_) (Nat.le_succ N)
  unfold d_X8_isCube
  refine dg_s (pc' := 1) [.int x1] rfl (fun _ => rfl) rfl ?_
  refine dw_if (fun t => Φ t) ((Int32.toInt x1) < 0) [] 16 4 rfl (fun _ => rfl) (fun c0 => ?_) (fun c0 => ?_)
  · refine dw_g rfl ?_
    refine dg_s (pc' := 17) [.int (0 : Int32)] rfl (fun _ => rfl) rfl ?_
    exact dw_r (some (.inl (some (.int (0 : Int32)), m))) rfl (fun _ => rfl) (kR _)
  · refine dw_g rfl ?_
    refine dg_s (pc' := 5) [.int x1] rfl (fun _ => rfl) rfl ?_
    refine dg_s (pc' := 6) [.ref x0, .int x1] rfl (fun _ => rfl) rfl ?_
    refine dg_s (pc' := 9) [.int (m.1 x0 7), .int x1] rfl (fun _ => rfl) rfl ?_
    refine dw_if (fun t => Φ t) ((Int32.toInt (m.1 x0 7)) ≤ (Int32.toInt x1)) [] 16 12 rfl (fun _ => rfl) (fun c1 => ?_) (fun c1 => ?_)
    · refine dw_g rfl ?_
      refine dg_s (pc' := 17) [.int (0 : Int32)] rfl (fun _ => rfl) rfl ?_
      exact dw_r (some (.inl (some (.int (0 : Int32)), m))) rfl (fun _ => rfl) (kR _)
    · refine dw_g rfl ?_
      refine dg_s (pc' := 13) [.int (1 : Int32)] rfl (fun _ => rfl) rfl ?_
      refine dg_s (pc' := 17) [.int (1 : Int32)] rfl (fun _ => rfl) rfl ?_
      exact dw_r (some (.inl (some (.int (1 : Int32)), m))) rfl (fun _ => rfl) (kR _)
def H_X8_isCube : dc_H := fun As m k => match As with
  | [.ref x0, .int x1] => k (some (.int (d_X8_isCube x0 x1 m))) m
  | _ => dc_kz
theorem H_X8_isCube_ok {u : Nat} : dc_cok u 95 H_X8_isCube := fun M' hG N As m k P hz hP => by
  obtain rfl : ab_M_X8_isCube = M' := Option.some.inj hG
  unfold H_X8_isCube at hP
  split at hP
  · rename_i x0 x1
    exact dc_pv.imp (k_X8_isCube (Φ := fun (t : Int32) r m' => P (k (some (.int t)) m) → P (k r m')) x0 x1 m (fun _  h => h) rfl rfl) (fun r m' h => h hP)
  · exact absurd hP hz
def C_X8_cube : List (Nat × dc_H) := []
theorem CO_X8_cube {u : Nat} : dc_CO u C_X8_cube := dc_CO_nil
def S_X8_cube : List (Nat × List Nat) := []
def d_X8_cube (x0 : Nat) (x1 : Int32) (x2 : Int32) (m : dc_M) : Int32 :=
  (if (Int32.toInt x2) < 0 then (-4 : Int32) else (if (Int32.toInt (m.1 (x0 + 3) (Int32.toNatClampNeg x1))) ≤ (Int32.toInt x2) then (-4 : Int32) else (m.1 (x0 + 5) (Int32.toNatClampNeg ((x1 * (32 : Int32)) + x2)))))
set_option maxHeartbeats 8000000 in
theorem k_X8_cube {u : Nat} {N : Nat} {Φ : Int32 → Option Value → dc_M → Prop} (x0 : Nat) (x1 : Int32) (x2 : Int32) (m : dc_M) (kR : ∀ (v : Int32), Φ (v) (some (.int v)) m)  {lv : ab_L} (f0 : ab_lk lv 0 = some (.ref x0)) (f1 : ab_lk lv 1 = some (.int x1)) (f2 : ab_lk lv 2 = some (.int x2)) : dc_pv u N ab_M_X8_cube 0 lv [] m (Φ (d_X8_cube x0 x1 x2 m)) := by
  refine dc_pv.mono (dc_ok (C := C_X8_cube) (S := S_X8_cube) CO_X8_cube 400 0 [(0, .ref x0), (1, .int x1), (2, .int x2)] lv [] m (dc_sub_cons f0 (dc_sub_cons f1 (dc_sub_cons f2 (dc_sub_nil)))) ?_) (Nat.le_succ N)
  unfold d_X8_cube
  refine dg_s (pc' := 1) [.int x2] rfl (fun _ => rfl) rfl ?_
  refine dw_if (fun t => Φ t) ((Int32.toInt x2) < 0) [] 28 4 rfl (fun _ => rfl) (fun c0 => ?_) (fun c0 => ?_)
  · refine dw_g rfl ?_
    refine dg_s (pc' := 30) [.int (-4 : Int32)] rfl (fun _ => rfl) rfl ?_
    exact dw_r (some (.inl (some (.int (-4 : Int32)), m))) rfl (fun _ => rfl) (kR _)
  · refine dw_g rfl ?_
    refine dg_s (pc' := 5) [.int x2] rfl (fun _ => rfl) rfl ?_
    refine dg_s (pc' := 6) [.ref x0, .int x2] rfl (fun _ => rfl) rfl ?_
    refine dg_s (pc' := 9) [.ref (x0 + 3), .int x2] rfl (fun _ => rfl) rfl ?_
    refine dg_s (pc' := 10) [.int x1, .ref (x0 + 3), .int x2] rfl (fun _ => rfl) rfl ?_
    refine dg_s (pc' := 11) [.int (m.1 (x0 + 3) (Int32.toNatClampNeg x1)), .int x2] rfl (fun _ => rfl) rfl ?_
    refine dw_if (fun t => Φ t) ((Int32.toInt (m.1 (x0 + 3) (Int32.toNatClampNeg x1))) ≤ (Int32.toInt x2)) [] 28 14 rfl (fun _ => rfl) (fun c1 => ?_) (fun c1 => ?_)
    · refine dw_g rfl ?_
      refine dg_s (pc' := 30) [.int (-4 : Int32)] rfl (fun _ => rfl) rfl ?_
      exact dw_r (some (.inl (some (.int (-4 : Int32)), m))) rfl (fun _ => rfl) (kR _)
    · refine dw_g rfl ?_
      refine dg_s (pc' := 15) [.ref x0] rfl (fun _ => rfl) rfl ?_
      refine dg_s (pc' := 18) [.ref (x0 + 5)] rfl (fun _ => rfl) rfl ?_
      refine dg_s (pc' := 19) [.int x1, .ref (x0 + 5)] rfl (fun _ => rfl) rfl ?_
      refine dg_s (pc' := 21) [.int (32 : Int32), .int x1, .ref (x0 + 5)] rfl (fun _ => rfl) rfl ?_
      refine dg_s (pc' := 22) [.int (x1 * (32 : Int32)), .ref (x0 + 5)] rfl (fun _ => rfl) rfl ?_
      refine dg_s (pc' := 23) [.int x2, .int (x1 * (32 : Int32)), .ref (x0 + 5)] rfl (fun _ => rfl) rfl ?_
      refine dg_s (pc' := 24) [.int ((x1 * (32 : Int32)) + x2), .ref (x0 + 5)] rfl (fun _ => rfl) rfl ?_
      refine dg_s (pc' := 25) [.int (m.1 (x0 + 5) (Int32.toNatClampNeg ((x1 * (32 : Int32)) + x2)))] rfl (fun _ => rfl) rfl ?_
      refine dg_s (pc' := 30) [.int (m.1 (x0 + 5) (Int32.toNatClampNeg ((x1 * (32 : Int32)) + x2)))] rfl (fun _ => rfl) rfl ?_
      exact dw_r (some (.inl (some (.int (m.1 (x0 + 5) (Int32.toNatClampNeg ((x1 * (32 : Int32)) + x2)))), m))) rfl (fun _ => rfl) (kR _)
def H_X8_cube : dc_H := fun As m k => match As with
  | [.ref x0, .int x1, .int x2] => k (some (.int (d_X8_cube x0 x1 x2 m))) m
  | _ => dc_kz
theorem H_X8_cube_ok {u : Nat} : dc_cok u 96 H_X8_cube := fun M' hG N As m k P hz hP => by
  obtain rfl : ab_M_X8_cube = M' := Option.some.inj hG
  unfold H_X8_cube at hP
  split at hP
  · rename_i x0 x1 x2
    exact dc_pv.imp (k_X8_cube (Φ := fun (t : Int32) r m' => P (k (some (.int t)) m) → P (k r m')) x0 x1 x2 m (fun _  h => h) rfl rfl rfl) (fun r m' h => h hP)
  · exact absurd hP hz
noncomputable def C_X9_feed : List (Nat × dc_H) := [(46, H_X4_append)]
theorem CO_X9_feed {u : Nat} : dc_CO u C_X9_feed := dc_CO_cons H_X4_append_ok (dc_CO_nil)
def S_X9_feed : List (Nat × List Nat) := []
noncomputable def d_X9_feed (x0 : Nat) (x1 : Int64) (m : dc_M) : Option (Int32 × dc_M) :=
  ((d_X4_append (x0 + 1) x1 m).bind (fun q1 => (if (Int32.toInt q1.1) = 0 then some (((-3 : Int32), q1.2)) else some (((q1.2.1 (x0 + 1) 1), q1.2)))))
set_option maxHeartbeats 8000000 in
theorem k_X9_feed {u : Nat} {N : Nat} {Φ : (Option (Int32 × dc_M)) → Option Value → dc_M → Prop} (x0 : Nat) (x1 : Int64) (m : dc_M) (kR : ∀ (v : Int32) (m : dc_M), Φ (some ((v, m))) (some (.int v)) m)  {lv : ab_L} (f0 : ab_lk lv 0 = some (.ref x0)) (f1 : ab_lk lv 1 = some (.long x1)) : dc_pv u N ab_M_X9_feed 0 lv [] m (Φ (d_X9_feed x0 x1 m)) := by
  refine dc_pv.mono (dc_ok (C := C_X9_feed) (S := S_X9_feed) CO_X9_feed 400 0 [(0, .ref x0), (1, .long x1)] lv [] m (dc_sub_cons f0 (dc_sub_cons f1 (dc_sub_nil))) ?_) (Nat.le_succ N)
  unfold d_X9_feed
  refine dg_s (pc' := 1) [.ref x0] rfl (fun _ => rfl) rfl ?_
  refine dg_s (pc' := 4) [.ref (x0 + 1)] rfl (fun _ => rfl) rfl ?_
  refine dg_s (pc' := 5) [.long x1, .ref (x0 + 1)] rfl (fun _ => rfl) rfl ?_
  refine dw_b (fun t => Φ t) (pc' := 8) (fun q1 => [.int q1.1]) (fun q1 => q1.2) rfl (fun _ => rfl) (fun q1 => ?_)
  refine dw_g rfl ?_
  refine dw_if (fun t => Φ t) ((Int32.toInt q1.1) = 0) [] 21 11 rfl (fun _ => rfl) (fun c0 => ?_) (fun c0 => ?_)
  · refine dw_g rfl ?_
    refine dg_s (pc' := 23) [.int (-3 : Int32)] rfl (fun _ => rfl) rfl ?_
    exact dw_r (some (.inl (some (.int (-3 : Int32)), q1.2))) rfl (fun _ => rfl) (kR _ _)
  · refine dw_g rfl ?_
    refine dg_s (pc' := 12) [.ref x0] rfl (fun _ => rfl) rfl ?_
    refine dg_s (pc' := 15) [.ref (x0 + 1)] rfl (fun _ => rfl) rfl ?_
    refine dg_s (pc' := 18) [.int (q1.2.1 (x0 + 1) 1)] rfl (fun _ => rfl) rfl ?_
    refine dg_s (pc' := 23) [.int (q1.2.1 (x0 + 1) 1)] rfl (fun _ => rfl) rfl ?_
    exact dw_r (some (.inl (some (.int (q1.2.1 (x0 + 1) 1)), q1.2))) rfl (fun _ => rfl) (kR _ _)
noncomputable def H_X9_feed : dc_H := fun As m k => match As with
  | [.ref x0, .long x1] => (d_X9_feed x0 x1 m).bind (fun q => k (some (.int q.1)) q.2)
  | _ => dc_kz
theorem H_X9_feed_ok {u : Nat} : dc_cok u 101 H_X9_feed := fun M' hG N As m k P hz hP => by
  obtain rfl : ab_M_X9_feed = M' := Option.some.inj hG
  unfold H_X9_feed at hP
  split at hP
  · rename_i x0 x1
    exact dc_pv.imp (k_X9_feed (Φ := fun (t : Option (Int32 × dc_M)) r m' => P (t.bind (fun q => k (some (.int q.1)) q.2)) → P (k r m')) x0 x1 m (fun _ _ h => h) rfl rfl) (fun r m' h => h hP)
  · exact absurd hP hz
def C_X9_end : List (Nat × dc_H) := []
theorem CO_X9_end {u : Nat} : dc_CO u C_X9_end := dc_CO_nil
def S_X9_end : List (Nat × List Nat) := []
def d_X9_end (x0 : Nat) (x1 : Int32) (m : dc_M) : (Int32 × dc_M) :=
  (if (Int32.toInt x1) < 0 then ((-1 : Int32), m) else (if (Int32.toInt x1) ≤ (Int32.toInt (m.1 (x0 + 1) 1)) then ((m.1 (x0 + 1) 1), (dc_wi m (x0 + 1) 1 x1)) else ((-1 : Int32), m)))
set_option maxHeartbeats 8000000 in
theorem k_X9_end {u : Nat} {N : Nat} {Φ : (Int32 × dc_M) → Option Value → dc_M → Prop} (x0 : Nat) (x1 : Int32) (m : dc_M) (kR : ∀ (v : Int32) (m : dc_M), Φ ((v, m)) (some (.int v)) m)  {lv : ab_L} (f0 : ab_lk lv 0 = some (.ref x0)) (f1 : ab_lk lv 1 = some (.int x1)) : dc_pv u N ab_M_X9_end 0 lv [] m (Φ (d_X9_end x0 x1 m)) := by
  refine dc_pv.mono (dc_ok (C := C_X9_end) (S := S_X9_end) CO_X9_end 400 0 [(0, .ref x0), (1, .int x1)] lv [] m (dc_sub_cons f0 (dc_sub_cons f1 (dc_sub_nil))) ?_) (Nat.le_succ N)
  unfold d_X9_end
  refine dg_s (pc' := 1) [.int x1] rfl (fun _ => rfl) rfl ?_
  refine dw_if (fun t => Φ t) ((Int32.toInt x1) < 0) [] 15 4 rfl (fun _ => rfl) (fun c0 => ?_) (fun c0 => ?_)
  · refine dw_g rfl ?_
    refine dg_s (pc' := 16) [.int (-1 : Int32)] rfl (fun _ => rfl) rfl ?_
    exact dw_r (some (.inl (some (.int (-1 : Int32)), m))) rfl (fun _ => rfl) (kR _ _)
  · refine dw_g rfl ?_
    refine dg_s (pc' := 5) [.int x1] rfl (fun _ => rfl) rfl ?_
    refine dg_s (pc' := 6) [.ref x0, .int x1] rfl (fun _ => rfl) rfl ?_
    refine dg_s (pc' := 9) [.ref (x0 + 1), .int x1] rfl (fun _ => rfl) rfl ?_
    refine dg_s (pc' := 12) [.int (m.1 (x0 + 1) 1), .int x1] rfl (fun _ => rfl) rfl ?_
    refine dw_if (fun t => Φ t) ((Int32.toInt x1) ≤ (Int32.toInt (m.1 (x0 + 1) 1))) [] 17 15 rfl (fun _ => rfl) (fun c1 => ?_) (fun c1 => ?_)
    · refine dw_g rfl ?_
      refine dg_s (pc' := 18) [.ref x0] rfl (fun _ => rfl) rfl ?_
      refine dg_s (pc' := 21) [.ref (x0 + 1)] rfl (fun _ => rfl) rfl ?_
      refine dg_s (pc' := 24) [.int (m.1 (x0 + 1) 1)] rfl (fun _ => rfl) rfl ?_
      refine dg_L (pc' := 25) [(2, .int (m.1 (x0 + 1) 1)), (0, .ref x0), (1, .int x1)] [] rfl (fun _ => rfl) rfl ?_
      refine dg_s (pc' := 26) [.ref x0] rfl (fun _ => rfl) rfl ?_
      refine dg_s (pc' := 29) [.ref (x0 + 1)] rfl (fun _ => rfl) rfl ?_
      refine dg_s (pc' := 30) [.int x1, .ref (x0 + 1)] rfl (fun _ => rfl) rfl ?_
      refine dg_m (pc' := 33) (dc_wi m (x0 + 1) 1 x1) [] rfl (fun _ => rfl) rfl ?_
      refine dg_s (pc' := 34) [.int (m.1 (x0 + 1) 1)] rfl (fun _ => rfl) rfl ?_
      exact dw_r (some (.inl (some (.int (m.1 (x0 + 1) 1)), (dc_wi m (x0 + 1) 1 x1)))) rfl (fun _ => rfl) (kR _ _)
    · refine dw_g rfl ?_
      refine dg_s (pc' := 16) [.int (-1 : Int32)] rfl (fun _ => rfl) rfl ?_
      exact dw_r (some (.inl (some (.int (-1 : Int32)), m))) rfl (fun _ => rfl) (kR _ _)
def H_X9_end : dc_H := fun As m k => match As with
  | [.ref x0, .int x1] => dc_let (d_X9_end x0 x1 m) (fun q => k (some (.int q.1)) q.2)
  | _ => dc_kz
theorem H_X9_end_ok {u : Nat} : dc_cok u 102 H_X9_end := fun M' hG N As m k P hz hP => by
  obtain rfl : ab_M_X9_end = M' := Option.some.inj hG
  unfold H_X9_end at hP
  split at hP
  · rename_i x0 x1
    exact dc_pv.imp (k_X9_end (Φ := fun (t : (Int32 × dc_M)) r m' => P (dc_let t (fun q => k (some (.int q.1)) q.2)) → P (k r m')) x0 x1 m (fun _ _ h => h) rfl rfl) (fun r m' h => h hP)
  · exact absurd hP hz
def C_X9_beginAnew : List (Nat × dc_H) := []
theorem CO_X9_beginAnew {u : Nat} : dc_CO u C_X9_beginAnew := dc_CO_nil
def S_X9_beginAnew : List (Nat × List Nat) := []
def d_X9_beginAnew (x0 : Nat) (m : dc_M) : dc_M :=
  (dc_wi (dc_wi (dc_wi (dc_wi (dc_wi (dc_wi (dc_wi m (x0 + 36) 0 (0 : Int32)) x0 11 (0 : Int32)) x0 12 (0 : Int32)) x0 13 (0 : Int32)) x0 14 (0 : Int32)) x0 15 (-100 : Int32)) x0 16 (-100 : Int32))
set_option maxHeartbeats 8000000 in
theorem k_X9_beginAnew {u : Nat} {N : Nat} {Φ : dc_M → Option Value → dc_M → Prop} (x0 : Nat) (m : dc_M) (kR : ∀  (m : dc_M), Φ (m) (none) m)  {lv : ab_L} (f0 : ab_lk lv 0 = some (.ref x0)) : dc_pv u N ab_M_X9_beginAnew 0 lv [] m (Φ (d_X9_beginAnew x0 m)) := by
  refine dc_pv.mono (dc_ok (C := C_X9_beginAnew) (S := S_X9_beginAnew) CO_X9_beginAnew 400 0 [(0, .ref x0)] lv [] m (dc_sub_cons f0 (dc_sub_nil)) ?_) (Nat.le_succ N)
  unfold d_X9_beginAnew
  refine dg_s (pc' := 1) [.ref x0] rfl (fun _ => rfl) rfl ?_
  refine dg_s (pc' := 4) [.ref (x0 + 36)] rfl (fun _ => rfl) rfl ?_
  refine dg_s (pc' := 5) [.int (0 : Int32), .ref (x0 + 36)] rfl (fun _ => rfl) rfl ?_
  refine dg_m (pc' := 8) (dc_wi m (x0 + 36) 0 (0 : Int32)) [] rfl (fun _ => rfl) rfl ?_
  refine dg_s (pc' := 9) [.ref x0] rfl (fun _ => rfl) rfl ?_
  refine dg_s (pc' := 10) [.int (0 : Int32), .ref x0] rfl (fun _ => rfl) rfl ?_
  refine dg_m (pc' := 13) (dc_wi (dc_wi m (x0 + 36) 0 (0 : Int32)) x0 11 (0 : Int32)) [] rfl (fun _ => rfl) rfl ?_
  refine dg_s (pc' := 14) [.ref x0] rfl (fun _ => rfl) rfl ?_
  refine dg_s (pc' := 15) [.int (0 : Int32), .ref x0] rfl (fun _ => rfl) rfl ?_
  refine dg_m (pc' := 18) (dc_wi (dc_wi (dc_wi m (x0 + 36) 0 (0 : Int32)) x0 11 (0 : Int32)) x0 12 (0 : Int32)) [] rfl (fun _ => rfl) rfl ?_
  refine dg_s (pc' := 19) [.ref x0] rfl (fun _ => rfl) rfl ?_
  refine dg_s (pc' := 20) [.int (0 : Int32), .ref x0] rfl (fun _ => rfl) rfl ?_
  refine dg_m (pc' := 23) (dc_wi (dc_wi (dc_wi (dc_wi m (x0 + 36) 0 (0 : Int32)) x0 11 (0 : Int32)) x0 12 (0 : Int32)) x0 13 (0 : Int32)) [] rfl (fun _ => rfl) rfl ?_
  refine dg_s (pc' := 24) [.ref x0] rfl (fun _ => rfl) rfl ?_
  refine dg_s (pc' := 25) [.int (0 : Int32), .ref x0] rfl (fun _ => rfl) rfl ?_
  refine dg_m (pc' := 28) (dc_wi (dc_wi (dc_wi (dc_wi (dc_wi m (x0 + 36) 0 (0 : Int32)) x0 11 (0 : Int32)) x0 12 (0 : Int32)) x0 13 (0 : Int32)) x0 14 (0 : Int32)) [] rfl (fun _ => rfl) rfl ?_
  refine dg_s (pc' := 29) [.ref x0] rfl (fun _ => rfl) rfl ?_
  refine dg_s (pc' := 31) [.int (-100 : Int32), .ref x0] rfl (fun _ => rfl) rfl ?_
  refine dg_m (pc' := 34) (dc_wi (dc_wi (dc_wi (dc_wi (dc_wi (dc_wi m (x0 + 36) 0 (0 : Int32)) x0 11 (0 : Int32)) x0 12 (0 : Int32)) x0 13 (0 : Int32)) x0 14 (0 : Int32)) x0 15 (-100 : Int32)) [] rfl (fun _ => rfl) rfl ?_
  refine dg_s (pc' := 35) [.ref x0] rfl (fun _ => rfl) rfl ?_
  refine dg_s (pc' := 37) [.int (-100 : Int32), .ref x0] rfl (fun _ => rfl) rfl ?_
  refine dg_m (pc' := 40) (dc_wi (dc_wi (dc_wi (dc_wi (dc_wi (dc_wi (dc_wi m (x0 + 36) 0 (0 : Int32)) x0 11 (0 : Int32)) x0 12 (0 : Int32)) x0 13 (0 : Int32)) x0 14 (0 : Int32)) x0 15 (-100 : Int32)) x0 16 (-100 : Int32)) [] rfl (fun _ => rfl) rfl ?_
  exact dw_r (some (.inl (none, (dc_wi (dc_wi (dc_wi (dc_wi (dc_wi (dc_wi (dc_wi m (x0 + 36) 0 (0 : Int32)) x0 11 (0 : Int32)) x0 12 (0 : Int32)) x0 13 (0 : Int32)) x0 14 (0 : Int32)) x0 15 (-100 : Int32)) x0 16 (-100 : Int32))))) rfl (fun _ => rfl) (kR _)
def H_X9_beginAnew : dc_H := fun As m k => match As with
  | [.ref x0] => dc_let (d_X9_beginAnew x0 m) (fun q => k (none) q)
  | _ => dc_kz
theorem H_X9_beginAnew_ok {u : Nat} : dc_cok u 133 H_X9_beginAnew := fun M' hG N As m k P hz hP => by
  obtain rfl : ab_M_X9_beginAnew = M' := Option.some.inj hG
  unfold H_X9_beginAnew at hP
  split at hP
  · rename_i x0
    exact dc_pv.imp (k_X9_beginAnew (Φ := fun (t : dc_M) r m' => P (dc_let t (fun q => k (none) q)) → P (k r m')) x0 m (fun _ h => h) rfl) (fun r m' h => h hP)
  · exact absurd hP hz
noncomputable def C_X9_text : List (Nat × dc_H) := [(47, H_X4_readInto), (133, H_X9_beginAnew)]
theorem CO_X9_text : dc_CO 4 C_X9_text := dc_CO_cons H_X4_readInto_ok (dc_CO_cons H_X9_beginAnew_ok (dc_CO_nil))
def S_X9_text : List (Nat × List Nat) := []
noncomputable def d_X9_text (x0 : Nat) (m : dc_M) : Option (Int32 × dc_M) :=
  ((d_X4_readInto (x0 + 1) (m.2.2.1 x0 8) m).bind (fun q1 => (if ¬ (Int32.toInt q1.1) = 0 then (dc_let (d_X9_beginAnew x0 (dc_wr (dc_wr (dc_wi q1.2 (x0 + 1) 1 (0 : Int32)) x0 7 ((dc_wi q1.2 (x0 + 1) 1 (0 : Int32)).2.2.1 x0 8)) x0 8 ((dc_wi q1.2 (x0 + 1) 1 (0 : Int32)).2.2.1 x0 7))) (fun q2 => some (((q2.1 (q2.2.2.1 x0 7) 2), q2)))) else some ((((-10 : Int32) - ((dc_wi q1.2 (x0 + 1) 1 (0 : Int32)).1 (x0 + 1) 3)), (dc_wi q1.2 (x0 + 1) 1 (0 : Int32)))))))
set_option maxHeartbeats 8000000 in
theorem k_X9_text {N : Nat} {Φ : (Option (Int32 × dc_M)) → Option Value → dc_M → Prop} (x0 : Nat) (m : dc_M) (kR : ∀ (v : Int32) (m : dc_M), Φ (some ((v, m))) (some (.int v)) m)  {lv : ab_L} (f0 : ab_lk lv 0 = some (.ref x0)) : dc_pv 4 N ab_M_X9_text 0 lv [] m (Φ (d_X9_text x0 m)) := by
  refine dc_pv.mono (dc_ok (C := C_X9_text) (S := S_X9_text) CO_X9_text 400 0 [(0, .ref x0)] lv [] m (dc_sub_cons f0 (dc_sub_nil)) ?_) (Nat.le_succ N)
  unfold d_X9_text
  refine dg_s (pc' := 1) [.ref x0] rfl (fun _ => rfl) rfl ?_
  refine dg_s (pc' := 4) [.ref (x0 + 1)] rfl (fun _ => rfl) rfl ?_
  refine dg_s (pc' := 5) [.ref x0, .ref (x0 + 1)] rfl (fun _ => rfl) rfl ?_
  refine dg_s (pc' := 8) [.ref (m.2.2.1 x0 8), .ref (x0 + 1)] rfl (fun _ => rfl) rfl ?_
  refine dw_b (fun t => Φ t) (pc' := 11) (fun q1 => [.int q1.1]) (fun q1 => q1.2) rfl (fun _ => rfl) (fun q1 => ?_)
  refine dw_g rfl ?_
  refine dg_L (pc' := 12) [(1, .int q1.1), (0, .ref x0)] [] rfl (fun _ => rfl) rfl ?_
  refine dg_s (pc' := 13) [.ref x0] rfl (fun _ => rfl) rfl ?_
  refine dg_s (pc' := 16) [.ref (x0 + 1)] rfl (fun _ => rfl) rfl ?_
  refine dg_s (pc' := 17) [.int (0 : Int32), .ref (x0 + 1)] rfl (fun _ => rfl) rfl ?_
  refine dg_m (pc' := 20) (dc_wi q1.2 (x0 + 1) 1 (0 : Int32)) [] rfl (fun _ => rfl) rfl ?_
  refine dg_s (pc' := 21) [.int q1.1] rfl (fun _ => rfl) rfl ?_
  refine dw_if (fun t => Φ t) (¬ (Int32.toInt q1.1) = 0) [] 35 24 rfl (fun _ => rfl) (fun c0 => ?_) (fun c0 => ?_)
  · refine dw_g rfl ?_
    refine dg_s (pc' := 36) [.ref x0] rfl (fun _ => rfl) rfl ?_
    refine dg_s (pc' := 39) [.ref ((dc_wi q1.2 (x0 + 1) 1 (0 : Int32)).2.2.1 x0 7)] rfl (fun _ => rfl) rfl ?_
    refine dg_L (pc' := 40) [(2, .ref ((dc_wi q1.2 (x0 + 1) 1 (0 : Int32)).2.2.1 x0 7)), (1, .int q1.1), (0, .ref x0)] [] rfl (fun _ => rfl) rfl ?_
    refine dg_s (pc' := 41) [.ref x0] rfl (fun _ => rfl) rfl ?_
    refine dg_s (pc' := 42) [.ref x0, .ref x0] rfl (fun _ => rfl) rfl ?_
    refine dg_s (pc' := 45) [.ref ((dc_wi q1.2 (x0 + 1) 1 (0 : Int32)).2.2.1 x0 8), .ref x0] rfl (fun _ => rfl) rfl ?_
    refine dg_m (pc' := 48) (dc_wr (dc_wi q1.2 (x0 + 1) 1 (0 : Int32)) x0 7 ((dc_wi q1.2 (x0 + 1) 1 (0 : Int32)).2.2.1 x0 8)) [] rfl (fun _ => rfl) rfl ?_
    refine dg_s (pc' := 49) [.ref x0] rfl (fun _ => rfl) rfl ?_
    refine dg_s (pc' := 50) [.ref ((dc_wi q1.2 (x0 + 1) 1 (0 : Int32)).2.2.1 x0 7), .ref x0] rfl (fun _ => rfl) rfl ?_
    refine dg_m (pc' := 53) (dc_wr (dc_wr (dc_wi q1.2 (x0 + 1) 1 (0 : Int32)) x0 7 ((dc_wi q1.2 (x0 + 1) 1 (0 : Int32)).2.2.1 x0 8)) x0 8 ((dc_wi q1.2 (x0 + 1) 1 (0 : Int32)).2.2.1 x0 7)) [] rfl (fun _ => rfl) rfl ?_
    refine dg_s (pc' := 54) [.ref x0] rfl (fun _ => rfl) rfl ?_
    refine dw_l (fun t => Φ t) (pc' := 57) (fun q2 => []) (fun q2 => q2) rfl (fun _ => rfl) (fun q2 => ?_)
    refine dw_g rfl ?_
    refine dg_s (pc' := 58) [.ref x0] rfl (fun _ => rfl) rfl ?_
    refine dg_s (pc' := 61) [.ref (q2.2.2.1 x0 7)] rfl (fun _ => rfl) rfl ?_
    refine dg_s (pc' := 64) [.int (q2.1 (q2.2.2.1 x0 7) 2)] rfl (fun _ => rfl) rfl ?_
    exact dw_r (some (.inl (some (.int (q2.1 (q2.2.2.1 x0 7) 2)), q2))) rfl (fun _ => rfl) (kR _ _)
  · refine dw_g rfl ?_
    refine dg_s (pc' := 26) [.int (-10 : Int32)] rfl (fun _ => rfl) rfl ?_
    refine dg_s (pc' := 27) [.ref x0, .int (-10 : Int32)] rfl (fun _ => rfl) rfl ?_
    refine dg_s (pc' := 30) [.ref (x0 + 1), .int (-10 : Int32)] rfl (fun _ => rfl) rfl ?_
    refine dg_s (pc' := 33) [.int ((dc_wi q1.2 (x0 + 1) 1 (0 : Int32)).1 (x0 + 1) 3), .int (-10 : Int32)] rfl (fun _ => rfl) rfl ?_
    refine dg_s (pc' := 34) [.int ((-10 : Int32) - ((dc_wi q1.2 (x0 + 1) 1 (0 : Int32)).1 (x0 + 1) 3))] rfl (fun _ => rfl) rfl ?_
    exact dw_r (some (.inl (some (.int ((-10 : Int32) - ((dc_wi q1.2 (x0 + 1) 1 (0 : Int32)).1 (x0 + 1) 3))), (dc_wi q1.2 (x0 + 1) 1 (0 : Int32))))) rfl (fun _ => rfl) (kR _ _)
noncomputable def H_X9_text : dc_H := fun As m k => match As with
  | [.ref x0] => (d_X9_text x0 m).bind (fun q => k (some (.int q.1)) q.2)
  | _ => dc_kz
theorem H_X9_text_ok : dc_cok 4 103 H_X9_text := fun M' hG N As m k P hz hP => by
  obtain rfl : ab_M_X9_text = M' := Option.some.inj hG
  unfold H_X9_text at hP
  split at hP
  · rename_i x0
    exact dc_pv.imp (k_X9_text (Φ := fun (t : Option (Int32 × dc_M)) r m' => P (t.bind (fun q => k (some (.int q.1)) q.2)) → P (k r m')) x0 m (fun _ _ h => h) rfl) (fun r m' h => h hP)
  · exact absurd hP hz
def C_X9_fault : List (Nat × dc_H) := []
theorem CO_X9_fault {u : Nat} : dc_CO u C_X9_fault := dc_CO_nil
def S_X9_fault : List (Nat × List Nat) := []
def d_X9_fault (x0 : Nat) (m : dc_M) : Int32 :=
  (m.1 (x0 + 1) 2)
set_option maxHeartbeats 8000000 in
theorem k_X9_fault {u : Nat} {N : Nat} {Φ : Int32 → Option Value → dc_M → Prop} (x0 : Nat) (m : dc_M) (kR : ∀ (v : Int32), Φ (v) (some (.int v)) m)  {lv : ab_L} (f0 : ab_lk lv 0 = some (.ref x0)) : dc_pv u N ab_M_X9_fault 0 lv [] m (Φ (d_X9_fault x0 m)) := by
  refine dc_pv.mono (dc_ok (C := C_X9_fault) (S := S_X9_fault) CO_X9_fault 400 0 [(0, .ref x0)] lv [] m (dc_sub_cons f0 (dc_sub_nil)) ?_) (Nat.le_succ N)
  unfold d_X9_fault
  refine dg_s (pc' := 1) [.ref x0] rfl (fun _ => rfl) rfl ?_
  refine dg_s (pc' := 4) [.ref (x0 + 1)] rfl (fun _ => rfl) rfl ?_
  refine dg_s (pc' := 7) [.int (m.1 (x0 + 1) 2)] rfl (fun _ => rfl) rfl ?_
  exact dw_r (some (.inl (some (.int (m.1 (x0 + 1) 2)), m))) rfl (fun _ => rfl) (kR _)
def H_X9_fault : dc_H := fun As m k => match As with
  | [.ref x0] => k (some (.int (d_X9_fault x0 m))) m
  | _ => dc_kz
theorem H_X9_fault_ok {u : Nat} : dc_cok u 104 H_X9_fault := fun M' hG N As m k P hz hP => by
  obtain rfl : ab_M_X9_fault = M' := Option.some.inj hG
  unfold H_X9_fault at hP
  split at hP
  · rename_i x0
    exact dc_pv.imp (k_X9_fault (Φ := fun (t : Int32) r m' => P (k (some (.int t)) m) → P (k r m')) x0 m (fun _  h => h) rfl) (fun r m' h => h hP)
  · exact absurd hP hz
noncomputable def C_X9_wire : List (Nat × dc_H) := [(30, H_X3_eventsOf), (25, H_X3_hasWire)]
theorem CO_X9_wire {u : Nat} : dc_CO u C_X9_wire := dc_CO_cons H_X3_eventsOf_ok (dc_CO_cons H_X3_hasWire_ok (dc_CO_nil))
def S_X9_wire : List (Nat × List Nat) := []
noncomputable def d_X9_wire (x0 : Nat) (x1 : Int32) (x2 : Int32) (m : dc_M) : Option Int32 :=
  (if ¬ (Int32.toInt (d_X3_hasWire (m.2.2.1 x0 7) x1 m)) = 0 then (if (Int32.toInt x2) = 0 then some ((m.1 ((m.2.2.1 x0 7) + 1) (Int32.toNatClampNeg x1))) else (if (Int32.toInt x2) = 1 then some ((m.1 ((m.2.2.1 x0 7) + 2) (Int32.toNatClampNeg x1))) else (if (Int32.toInt x2) = 2 then ((d_X3_eventsOf (m.2.2.1 x0 7) x1 m).bind (fun q1 => some (q1))) else some ((-1 : Int32))))) else some ((-1 : Int32)))
set_option maxHeartbeats 8000000 in
theorem k_X9_wire {u : Nat} {N : Nat} {Φ : (Option Int32) → Option Value → dc_M → Prop} (x0 : Nat) (x1 : Int32) (x2 : Int32) (m : dc_M) (kR : ∀ (v : Int32), Φ (some (v)) (some (.int v)) m)  {lv : ab_L} (f0 : ab_lk lv 0 = some (.ref x0)) (f1 : ab_lk lv 1 = some (.int x1)) (f2 : ab_lk lv 2 = some (.int x2)) : dc_pv u N ab_M_X9_wire 0 lv [] m (Φ (d_X9_wire x0 x1 x2 m)) := by
  refine dc_pv.mono (dc_ok (C := C_X9_wire) (S := S_X9_wire) CO_X9_wire 400 0 [(0, .ref x0), (1, .int x1), (2, .int x2)] lv [] m (dc_sub_cons f0 (dc_sub_cons f1 (dc_sub_cons f2 (dc_sub_nil)))) ?_) (Nat.le_succ N)
  unfold d_X9_wire
  refine dg_s (pc' := 1) [.ref x0] rfl (fun _ => rfl) rfl ?_
  refine dg_s (pc' := 4) [.ref (m.2.2.1 x0 7)] rfl (fun _ => rfl) rfl ?_
  refine dg_s (pc' := 5) [.int x1, .ref (m.2.2.1 x0 7)] rfl (fun _ => rfl) rfl ?_
  refine dg_s (pc' := 8) [.int (d_X3_hasWire (m.2.2.1 x0 7) x1 m)] rfl (fun _ => rfl) rfl ?_
  refine dw_if (fun t => Φ t) (¬ (Int32.toInt (d_X3_hasWire (m.2.2.1 x0 7) x1 m)) = 0) [] 13 11 rfl (fun _ => rfl) (fun c0 => ?_) (fun c0 => ?_)
  · refine dw_g rfl ?_
    refine dg_s (pc' := 14) [.int x2] rfl (fun _ => rfl) rfl ?_
    refine dw_sw (fun t => Φ t) ((Int32.toInt x2)) 69 [(0, 40), (1, 50), (2, 60)] [] rfl (fun _ => rfl) ?_
    refine dw_ts (fun t => Φ t) (fun c1 => ?_) (fun c1 => ?_)
    · refine dw_g rfl ?_
      refine dg_s (pc' := 41) [.ref x0] rfl (fun _ => rfl) rfl ?_
      refine dg_s (pc' := 44) [.ref (m.2.2.1 x0 7)] rfl (fun _ => rfl) rfl ?_
      refine dg_s (pc' := 47) [.ref ((m.2.2.1 x0 7) + 1)] rfl (fun _ => rfl) rfl ?_
      refine dg_s (pc' := 48) [.int x1, .ref ((m.2.2.1 x0 7) + 1)] rfl (fun _ => rfl) rfl ?_
      refine dg_s (pc' := 49) [.int (m.1 ((m.2.2.1 x0 7) + 1) (Int32.toNatClampNeg x1))] rfl (fun _ => rfl) rfl ?_
      exact dw_r (some (.inl (some (.int (m.1 ((m.2.2.1 x0 7) + 1) (Int32.toNatClampNeg x1))), m))) rfl (fun _ => rfl) (kR _)
    refine dw_ts (fun t => Φ t) (fun c2 => ?_) (fun c2 => ?_)
    · refine dw_g rfl ?_
      refine dg_s (pc' := 51) [.ref x0] rfl (fun _ => rfl) rfl ?_
      refine dg_s (pc' := 54) [.ref (m.2.2.1 x0 7)] rfl (fun _ => rfl) rfl ?_
      refine dg_s (pc' := 57) [.ref ((m.2.2.1 x0 7) + 2)] rfl (fun _ => rfl) rfl ?_
      refine dg_s (pc' := 58) [.int x1, .ref ((m.2.2.1 x0 7) + 2)] rfl (fun _ => rfl) rfl ?_
      refine dg_s (pc' := 59) [.int (m.1 ((m.2.2.1 x0 7) + 2) (Int32.toNatClampNeg x1))] rfl (fun _ => rfl) rfl ?_
      exact dw_r (some (.inl (some (.int (m.1 ((m.2.2.1 x0 7) + 2) (Int32.toNatClampNeg x1))), m))) rfl (fun _ => rfl) (kR _)
    refine dw_ts (fun t => Φ t) (fun c3 => ?_) (fun c3 => ?_)
    · refine dw_g rfl ?_
      refine dg_s (pc' := 61) [.ref x0] rfl (fun _ => rfl) rfl ?_
      refine dg_s (pc' := 64) [.ref (m.2.2.1 x0 7)] rfl (fun _ => rfl) rfl ?_
      refine dg_s (pc' := 65) [.int x1, .ref (m.2.2.1 x0 7)] rfl (fun _ => rfl) rfl ?_
      refine dw_b (fun t => Φ t) (pc' := 68) (fun q1 => [.int q1]) (fun q1 => m) rfl (fun _ => rfl) (fun q1 => ?_)
      refine dw_g rfl ?_
      exact dw_r (some (.inl (some (.int q1), m))) rfl (fun _ => rfl) (kR _)
    refine dw_t0 ?_
    refine dw_g rfl ?_
    refine dg_s (pc' := 70) [.int (-1 : Int32)] rfl (fun _ => rfl) rfl ?_
    exact dw_r (some (.inl (some (.int (-1 : Int32)), m))) rfl (fun _ => rfl) (kR _)
  · refine dw_g rfl ?_
    refine dg_s (pc' := 12) [.int (-1 : Int32)] rfl (fun _ => rfl) rfl ?_
    exact dw_r (some (.inl (some (.int (-1 : Int32)), m))) rfl (fun _ => rfl) (kR _)
noncomputable def H_X9_wire : dc_H := fun As m k => match As with
  | [.ref x0, .int x1, .int x2] => (d_X9_wire x0 x1 x2 m).bind (fun q => k (some (.int q)) m)
  | _ => dc_kz
theorem H_X9_wire_ok {u : Nat} : dc_cok u 105 H_X9_wire := fun M' hG N As m k P hz hP => by
  obtain rfl : ab_M_X9_wire = M' := Option.some.inj hG
  unfold H_X9_wire at hP
  split at hP
  · rename_i x0 x1 x2
    exact dc_pv.imp (k_X9_wire (Φ := fun (t : Option Int32) r m' => P (t.bind (fun q => k (some (.int q)) m)) → P (k r m')) x0 x1 x2 m (fun _  h => h) rfl rfl rfl) (fun r m' h => h hP)
  · exact absurd hP hz
def C_X9_event : List (Nat × dc_H) := [(26, H_X3_hasEvent)]
theorem CO_X9_event {u : Nat} : dc_CO u C_X9_event := dc_CO_cons H_X3_hasEvent_ok (dc_CO_nil)
def S_X9_event : List (Nat × List Nat) := []
def d_X9_event (x0 : Nat) (x1 : Int32) (x2 : Int32) (m : dc_M) : Int32 :=
  (if ¬ (Int32.toInt (d_X3_hasEvent (m.2.2.1 x0 7) x1 m)) = 0 then (if (Int32.toInt x2) = 0 then (m.1 ((m.2.2.1 x0 7) + 3) (Int32.toNatClampNeg x1)) else (if (Int32.toInt x2) = 1 then (m.1 ((m.2.2.1 x0 7) + 4) (Int32.toNatClampNeg x1)) else (if (Int32.toInt x2) = 2 then (m.1 ((m.2.2.1 x0 7) + 5) (Int32.toNatClampNeg x1)) else (if (Int32.toInt x2) = 3 then (m.1 ((m.2.2.1 x0 7) + 6) (Int32.toNatClampNeg x1)) else (if (Int32.toInt x2) = 4 then (m.1 ((m.2.2.1 x0 7) + 7) (Int32.toNatClampNeg x1)) else (if (Int32.toInt x2) = 5 then (m.1 ((m.2.2.1 x0 7) + 8) (Int32.toNatClampNeg x1)) else (-1 : Int32))))))) else (-1 : Int32))
set_option maxHeartbeats 8000000 in
theorem k_X9_event {u : Nat} {N : Nat} {Φ : Int32 → Option Value → dc_M → Prop} (x0 : Nat) (x1 : Int32) (x2 : Int32) (m : dc_M) (kR : ∀ (v : Int32), Φ (v) (some (.int v)) m)  {lv : ab_L} (f0 : ab_lk lv 0 = some (.ref x0)) (f1 : ab_lk lv 1 = some (.int x1)) (f2 : ab_lk lv 2 = some (.int x2)) : dc_pv u N ab_M_X9_event 0 lv [] m (Φ (d_X9_event x0 x1 x2 m)) := by
  refine dc_pv.mono (dc_ok (C := C_X9_event) (S := S_X9_event) CO_X9_event 400 0 [(0, .ref x0), (1, .int x1), (2, .int x2)] lv [] m (dc_sub_cons f0 (dc_sub_cons f1 (dc_sub_cons f2 (dc_sub_nil)))) ?_) (Nat.le_succ N)
  unfold d_X9_event
  refine dg_s (pc' := 1) [.ref x0] rfl (fun _ => rfl) rfl ?_
  refine dg_s (pc' := 4) [.ref (m.2.2.1 x0 7)] rfl (fun _ => rfl) rfl ?_
  refine dg_s (pc' := 5) [.int x1, .ref (m.2.2.1 x0 7)] rfl (fun _ => rfl) rfl ?_
  refine dg_s (pc' := 8) [.int (d_X3_hasEvent (m.2.2.1 x0 7) x1 m)] rfl (fun _ => rfl) rfl ?_
  refine dw_if (fun t => Φ t) (¬ (Int32.toInt (d_X3_hasEvent (m.2.2.1 x0 7) x1 m)) = 0) [] 13 11 rfl (fun _ => rfl) (fun c0 => ?_) (fun c0 => ?_)
  · refine dw_g rfl ?_
    refine dg_s (pc' := 14) [.int x2] rfl (fun _ => rfl) rfl ?_
    refine dw_sw (fun t => Φ t) ((Int32.toInt x2)) 112 [(0, 52), (1, 62), (2, 72), (3, 82), (4, 92), (5, 102)] [] rfl (fun _ => rfl) ?_
    refine dw_ts (fun t => Φ t) (fun c1 => ?_) (fun c1 => ?_)
    · refine dw_g rfl ?_
      refine dg_s (pc' := 53) [.ref x0] rfl (fun _ => rfl) rfl ?_
      refine dg_s (pc' := 56) [.ref (m.2.2.1 x0 7)] rfl (fun _ => rfl) rfl ?_
      refine dg_s (pc' := 59) [.ref ((m.2.2.1 x0 7) + 3)] rfl (fun _ => rfl) rfl ?_
      refine dg_s (pc' := 60) [.int x1, .ref ((m.2.2.1 x0 7) + 3)] rfl (fun _ => rfl) rfl ?_
      refine dg_s (pc' := 61) [.int (m.1 ((m.2.2.1 x0 7) + 3) (Int32.toNatClampNeg x1))] rfl (fun _ => rfl) rfl ?_
      exact dw_r (some (.inl (some (.int (m.1 ((m.2.2.1 x0 7) + 3) (Int32.toNatClampNeg x1))), m))) rfl (fun _ => rfl) (kR _)
    refine dw_ts (fun t => Φ t) (fun c2 => ?_) (fun c2 => ?_)
    · refine dw_g rfl ?_
      refine dg_s (pc' := 63) [.ref x0] rfl (fun _ => rfl) rfl ?_
      refine dg_s (pc' := 66) [.ref (m.2.2.1 x0 7)] rfl (fun _ => rfl) rfl ?_
      refine dg_s (pc' := 69) [.ref ((m.2.2.1 x0 7) + 4)] rfl (fun _ => rfl) rfl ?_
      refine dg_s (pc' := 70) [.int x1, .ref ((m.2.2.1 x0 7) + 4)] rfl (fun _ => rfl) rfl ?_
      refine dg_s (pc' := 71) [.int (m.1 ((m.2.2.1 x0 7) + 4) (Int32.toNatClampNeg x1))] rfl (fun _ => rfl) rfl ?_
      exact dw_r (some (.inl (some (.int (m.1 ((m.2.2.1 x0 7) + 4) (Int32.toNatClampNeg x1))), m))) rfl (fun _ => rfl) (kR _)
    refine dw_ts (fun t => Φ t) (fun c3 => ?_) (fun c3 => ?_)
    · refine dw_g rfl ?_
      refine dg_s (pc' := 73) [.ref x0] rfl (fun _ => rfl) rfl ?_
      refine dg_s (pc' := 76) [.ref (m.2.2.1 x0 7)] rfl (fun _ => rfl) rfl ?_
      refine dg_s (pc' := 79) [.ref ((m.2.2.1 x0 7) + 5)] rfl (fun _ => rfl) rfl ?_
      refine dg_s (pc' := 80) [.int x1, .ref ((m.2.2.1 x0 7) + 5)] rfl (fun _ => rfl) rfl ?_
      refine dg_s (pc' := 81) [.int (m.1 ((m.2.2.1 x0 7) + 5) (Int32.toNatClampNeg x1))] rfl (fun _ => rfl) rfl ?_
      exact dw_r (some (.inl (some (.int (m.1 ((m.2.2.1 x0 7) + 5) (Int32.toNatClampNeg x1))), m))) rfl (fun _ => rfl) (kR _)
    refine dw_ts (fun t => Φ t) (fun c4 => ?_) (fun c4 => ?_)
    · refine dw_g rfl ?_
      refine dg_s (pc' := 83) [.ref x0] rfl (fun _ => rfl) rfl ?_
      refine dg_s (pc' := 86) [.ref (m.2.2.1 x0 7)] rfl (fun _ => rfl) rfl ?_
      refine dg_s (pc' := 89) [.ref ((m.2.2.1 x0 7) + 6)] rfl (fun _ => rfl) rfl ?_
      refine dg_s (pc' := 90) [.int x1, .ref ((m.2.2.1 x0 7) + 6)] rfl (fun _ => rfl) rfl ?_
      refine dg_s (pc' := 91) [.int (m.1 ((m.2.2.1 x0 7) + 6) (Int32.toNatClampNeg x1))] rfl (fun _ => rfl) rfl ?_
      exact dw_r (some (.inl (some (.int (m.1 ((m.2.2.1 x0 7) + 6) (Int32.toNatClampNeg x1))), m))) rfl (fun _ => rfl) (kR _)
    refine dw_ts (fun t => Φ t) (fun c5 => ?_) (fun c5 => ?_)
    · refine dw_g rfl ?_
      refine dg_s (pc' := 93) [.ref x0] rfl (fun _ => rfl) rfl ?_
      refine dg_s (pc' := 96) [.ref (m.2.2.1 x0 7)] rfl (fun _ => rfl) rfl ?_
      refine dg_s (pc' := 99) [.ref ((m.2.2.1 x0 7) + 7)] rfl (fun _ => rfl) rfl ?_
      refine dg_s (pc' := 100) [.int x1, .ref ((m.2.2.1 x0 7) + 7)] rfl (fun _ => rfl) rfl ?_
      refine dg_s (pc' := 101) [.int (m.1 ((m.2.2.1 x0 7) + 7) (Int32.toNatClampNeg x1))] rfl (fun _ => rfl) rfl ?_
      exact dw_r (some (.inl (some (.int (m.1 ((m.2.2.1 x0 7) + 7) (Int32.toNatClampNeg x1))), m))) rfl (fun _ => rfl) (kR _)
    refine dw_ts (fun t => Φ t) (fun c6 => ?_) (fun c6 => ?_)
    · refine dw_g rfl ?_
      refine dg_s (pc' := 103) [.ref x0] rfl (fun _ => rfl) rfl ?_
      refine dg_s (pc' := 106) [.ref (m.2.2.1 x0 7)] rfl (fun _ => rfl) rfl ?_
      refine dg_s (pc' := 109) [.ref ((m.2.2.1 x0 7) + 8)] rfl (fun _ => rfl) rfl ?_
      refine dg_s (pc' := 110) [.int x1, .ref ((m.2.2.1 x0 7) + 8)] rfl (fun _ => rfl) rfl ?_
      refine dg_s (pc' := 111) [.int (m.1 ((m.2.2.1 x0 7) + 8) (Int32.toNatClampNeg x1))] rfl (fun _ => rfl) rfl ?_
      exact dw_r (some (.inl (some (.int (m.1 ((m.2.2.1 x0 7) + 8) (Int32.toNatClampNeg x1))), m))) rfl (fun _ => rfl) (kR _)
    refine dw_t0 ?_
    refine dw_g rfl ?_
    refine dg_s (pc' := 113) [.int (-1 : Int32)] rfl (fun _ => rfl) rfl ?_
    exact dw_r (some (.inl (some (.int (-1 : Int32)), m))) rfl (fun _ => rfl) (kR _)
  · refine dw_g rfl ?_
    refine dg_s (pc' := 12) [.int (-1 : Int32)] rfl (fun _ => rfl) rfl ?_
    exact dw_r (some (.inl (some (.int (-1 : Int32)), m))) rfl (fun _ => rfl) (kR _)
def H_X9_event : dc_H := fun As m k => match As with
  | [.ref x0, .int x1, .int x2] => k (some (.int (d_X9_event x0 x1 x2 m))) m
  | _ => dc_kz
theorem H_X9_event_ok {u : Nat} : dc_cok u 106 H_X9_event := fun M' hG N As m k P hz hP => by
  obtain rfl : ab_M_X9_event = M' := Option.some.inj hG
  unfold H_X9_event at hP
  split at hP
  · rename_i x0 x1 x2
    exact dc_pv.imp (k_X9_event (Φ := fun (t : Int32) r m' => P (k (some (.int t)) m) → P (k r m')) x0 x1 x2 m (fun _  h => h) rfl rfl rfl) (fun r m' h => h hP)
  · exact absurd hP hz
def C_X9_place : List (Nat × dc_H) := [(27, H_X3_hasPlace)]
theorem CO_X9_place {u : Nat} : dc_CO u C_X9_place := dc_CO_cons H_X3_hasPlace_ok (dc_CO_nil)
def S_X9_place : List (Nat × List Nat) := []
def d_X9_place (x0 : Nat) (x1 : Int32) (x2 : Int32) (m : dc_M) : Int32 :=
  (if ¬ (Int32.toInt (d_X3_hasPlace (m.2.2.1 x0 7) x1 m)) = 0 then (if (Int32.toInt x2) = 0 then (m.1 ((m.2.2.1 x0 7) + 9) (Int32.toNatClampNeg x1)) else (if (Int32.toInt x2) = 1 then (m.1 ((m.2.2.1 x0 7) + 10) (Int32.toNatClampNeg x1)) else (if (Int32.toInt x2) = 2 then (((m.1 (m.2.2.1 x0 7) 13) >>> (x1 &&& 31)) &&& (1 : Int32)) else (-1 : Int32)))) else (-1 : Int32))
set_option maxHeartbeats 8000000 in
theorem k_X9_place {u : Nat} {N : Nat} {Φ : Int32 → Option Value → dc_M → Prop} (x0 : Nat) (x1 : Int32) (x2 : Int32) (m : dc_M) (kR : ∀ (v : Int32), Φ (v) (some (.int v)) m)  {lv : ab_L} (f0 : ab_lk lv 0 = some (.ref x0)) (f1 : ab_lk lv 1 = some (.int x1)) (f2 : ab_lk lv 2 = some (.int x2)) : dc_pv u N ab_M_X9_place 0 lv [] m (Φ (d_X9_place x0 x1 x2 m)) := by
  refine dc_pv.mono (dc_ok (C := C_X9_place) (S := S_X9_place) CO_X9_place 400 0 [(0, .ref x0), (1, .int x1), (2, .int x2)] lv [] m (dc_sub_cons f0 (dc_sub_cons f1 (dc_sub_cons f2 (dc_sub_nil)))) ?_) (Nat.le_succ N)
  unfold d_X9_place
  refine dg_s (pc' := 1) [.ref x0] rfl (fun _ => rfl) rfl ?_
  refine dg_s (pc' := 4) [.ref (m.2.2.1 x0 7)] rfl (fun _ => rfl) rfl ?_
  refine dg_s (pc' := 5) [.int x1, .ref (m.2.2.1 x0 7)] rfl (fun _ => rfl) rfl ?_
  refine dg_s (pc' := 8) [.int (d_X3_hasPlace (m.2.2.1 x0 7) x1 m)] rfl (fun _ => rfl) rfl ?_
  refine dw_if (fun t => Φ t) (¬ (Int32.toInt (d_X3_hasPlace (m.2.2.1 x0 7) x1 m)) = 0) [] 13 11 rfl (fun _ => rfl) (fun c0 => ?_) (fun c0 => ?_)
  · refine dw_g rfl ?_
    refine dg_s (pc' := 14) [.int x2] rfl (fun _ => rfl) rfl ?_
    refine dw_sw (fun t => Φ t) ((Int32.toInt x2)) 72 [(0, 40), (1, 50), (2, 60)] [] rfl (fun _ => rfl) ?_
    refine dw_ts (fun t => Φ t) (fun c1 => ?_) (fun c1 => ?_)
    · refine dw_g rfl ?_
      refine dg_s (pc' := 41) [.ref x0] rfl (fun _ => rfl) rfl ?_
      refine dg_s (pc' := 44) [.ref (m.2.2.1 x0 7)] rfl (fun _ => rfl) rfl ?_
      refine dg_s (pc' := 47) [.ref ((m.2.2.1 x0 7) + 9)] rfl (fun _ => rfl) rfl ?_
      refine dg_s (pc' := 48) [.int x1, .ref ((m.2.2.1 x0 7) + 9)] rfl (fun _ => rfl) rfl ?_
      refine dg_s (pc' := 49) [.int (m.1 ((m.2.2.1 x0 7) + 9) (Int32.toNatClampNeg x1))] rfl (fun _ => rfl) rfl ?_
      exact dw_r (some (.inl (some (.int (m.1 ((m.2.2.1 x0 7) + 9) (Int32.toNatClampNeg x1))), m))) rfl (fun _ => rfl) (kR _)
    refine dw_ts (fun t => Φ t) (fun c2 => ?_) (fun c2 => ?_)
    · refine dw_g rfl ?_
      refine dg_s (pc' := 51) [.ref x0] rfl (fun _ => rfl) rfl ?_
      refine dg_s (pc' := 54) [.ref (m.2.2.1 x0 7)] rfl (fun _ => rfl) rfl ?_
      refine dg_s (pc' := 57) [.ref ((m.2.2.1 x0 7) + 10)] rfl (fun _ => rfl) rfl ?_
      refine dg_s (pc' := 58) [.int x1, .ref ((m.2.2.1 x0 7) + 10)] rfl (fun _ => rfl) rfl ?_
      refine dg_s (pc' := 59) [.int (m.1 ((m.2.2.1 x0 7) + 10) (Int32.toNatClampNeg x1))] rfl (fun _ => rfl) rfl ?_
      exact dw_r (some (.inl (some (.int (m.1 ((m.2.2.1 x0 7) + 10) (Int32.toNatClampNeg x1))), m))) rfl (fun _ => rfl) (kR _)
    refine dw_ts (fun t => Φ t) (fun c3 => ?_) (fun c3 => ?_)
    · refine dw_g rfl ?_
      refine dg_s (pc' := 61) [.ref x0] rfl (fun _ => rfl) rfl ?_
      refine dg_s (pc' := 64) [.ref (m.2.2.1 x0 7)] rfl (fun _ => rfl) rfl ?_
      refine dg_s (pc' := 67) [.int (m.1 (m.2.2.1 x0 7) 13)] rfl (fun _ => rfl) rfl ?_
      refine dg_s (pc' := 68) [.int x1, .int (m.1 (m.2.2.1 x0 7) 13)] rfl (fun _ => rfl) rfl ?_
      refine dg_s (pc' := 69) [.int ((m.1 (m.2.2.1 x0 7) 13) >>> (x1 &&& 31))] rfl (fun _ => rfl) rfl ?_
      refine dg_s (pc' := 70) [.int (1 : Int32), .int ((m.1 (m.2.2.1 x0 7) 13) >>> (x1 &&& 31))] rfl (fun _ => rfl) rfl ?_
      refine dg_s (pc' := 71) [.int (((m.1 (m.2.2.1 x0 7) 13) >>> (x1 &&& 31)) &&& (1 : Int32))] rfl (fun _ => rfl) rfl ?_
      exact dw_r (some (.inl (some (.int (((m.1 (m.2.2.1 x0 7) 13) >>> (x1 &&& 31)) &&& (1 : Int32))), m))) rfl (fun _ => rfl) (kR _)
    refine dw_t0 ?_
    refine dw_g rfl ?_
    refine dg_s (pc' := 73) [.int (-1 : Int32)] rfl (fun _ => rfl) rfl ?_
    exact dw_r (some (.inl (some (.int (-1 : Int32)), m))) rfl (fun _ => rfl) (kR _)
  · refine dw_g rfl ?_
    refine dg_s (pc' := 12) [.int (-1 : Int32)] rfl (fun _ => rfl) rfl ?_
    exact dw_r (some (.inl (some (.int (-1 : Int32)), m))) rfl (fun _ => rfl) (kR _)
def H_X9_place : dc_H := fun As m k => match As with
  | [.ref x0, .int x1, .int x2] => k (some (.int (d_X9_place x0 x1 x2 m))) m
  | _ => dc_kz
theorem H_X9_place_ok {u : Nat} : dc_cok u 107 H_X9_place := fun M' hG N As m k P hz hP => by
  obtain rfl : ab_M_X9_place = M' := Option.some.inj hG
  unfold H_X9_place at hP
  split at hP
  · rename_i x0 x1 x2
    exact dc_pv.imp (k_X9_place (Φ := fun (t : Int32) r m' => P (k (some (.int t)) m) → P (k r m')) x0 x1 x2 m (fun _  h => h) rfl rfl rfl) (fun r m' h => h hP)
  · exact absurd hP hz
noncomputable def C_X9_explore : List (Nat × dc_H) := [(82, H_X7_explore)]
theorem CO_X9_explore {u : Nat} : dc_CO u C_X9_explore := dc_CO_cons H_X7_explore_ok (dc_CO_nil)
def S_X9_explore : List (Nat × List Nat) := []
noncomputable def d_X9_explore (x0 : Nat) (m : dc_M) : Option dc_M :=
  (if ¬ (Int32.toInt (m.1 x0 11)) = 0 then some (m) else ((d_X7_explore (x0 + 3) (m.2.2.1 x0 7) m).bind (fun q1 => some ((dc_wi q1 x0 11 (1 : Int32))))))
set_option maxHeartbeats 8000000 in
theorem k_X9_explore {u : Nat} {N : Nat} {Φ : (Option dc_M) → Option Value → dc_M → Prop} (x0 : Nat) (m : dc_M) (kR : ∀  (m : dc_M), Φ (some (m)) (none) m)  {lv : ab_L} (f0 : ab_lk lv 0 = some (.ref x0)) : dc_pv u N ab_M_X9_explore 0 lv [] m (Φ (d_X9_explore x0 m)) := by
  refine dc_pv.mono (dc_ok (C := C_X9_explore) (S := S_X9_explore) CO_X9_explore 400 0 [(0, .ref x0)] lv [] m (dc_sub_cons f0 (dc_sub_nil)) ?_) (Nat.le_succ N)
  unfold d_X9_explore
  refine dg_s (pc' := 1) [.ref x0] rfl (fun _ => rfl) rfl ?_
  refine dg_s (pc' := 4) [.int (m.1 x0 11)] rfl (fun _ => rfl) rfl ?_
  refine dw_if (fun t => Φ t) (¬ (Int32.toInt (m.1 x0 11)) = 0) [] 23 7 rfl (fun _ => rfl) (fun c0 => ?_) (fun c0 => ?_)
  · refine dw_g rfl ?_
    exact dw_r (some (.inl (none, m))) rfl (fun _ => rfl) (kR _)
  · refine dw_g rfl ?_
    refine dg_s (pc' := 8) [.ref x0] rfl (fun _ => rfl) rfl ?_
    refine dg_s (pc' := 11) [.ref (x0 + 3)] rfl (fun _ => rfl) rfl ?_
    refine dg_s (pc' := 12) [.ref x0, .ref (x0 + 3)] rfl (fun _ => rfl) rfl ?_
    refine dg_s (pc' := 15) [.ref (m.2.2.1 x0 7), .ref (x0 + 3)] rfl (fun _ => rfl) rfl ?_
    refine dw_b (fun t => Φ t) (pc' := 18) (fun q1 => []) (fun q1 => q1) rfl (fun _ => rfl) (fun q1 => ?_)
    refine dw_g rfl ?_
    refine dg_s (pc' := 19) [.ref x0] rfl (fun _ => rfl) rfl ?_
    refine dg_s (pc' := 20) [.int (1 : Int32), .ref x0] rfl (fun _ => rfl) rfl ?_
    refine dg_m (pc' := 23) (dc_wi q1 x0 11 (1 : Int32)) [] rfl (fun _ => rfl) rfl ?_
    exact dw_r (some (.inl (none, (dc_wi q1 x0 11 (1 : Int32))))) rfl (fun _ => rfl) (kR _)
noncomputable def H_X9_explore : dc_H := fun As m k => match As with
  | [.ref x0] => (d_X9_explore x0 m).bind (fun q => k (none) q)
  | _ => dc_kz
theorem H_X9_explore_ok {u : Nat} : dc_cok u 134 H_X9_explore := fun M' hG N As m k P hz hP => by
  obtain rfl : ab_M_X9_explore = M' := Option.some.inj hG
  unfold H_X9_explore at hP
  split at hP
  · rename_i x0
    exact dc_pv.imp (k_X9_explore (Φ := fun (t : Option dc_M) r m' => P (t.bind (fun q => k (none) q)) → P (k r m')) x0 m (fun _ h => h) rfl) (fun r m' h => h hP)
  · exact absurd hP hz
noncomputable def C_X9_states : List (Nat × dc_H) := [(134, H_X9_explore)]
theorem CO_X9_states {u : Nat} : dc_CO u C_X9_states := dc_CO_cons H_X9_explore_ok (dc_CO_nil)
def S_X9_states : List (Nat × List Nat) := []
noncomputable def d_X9_states (x0 : Nat) (m : dc_M) : Option (Int32 × dc_M) :=
  ((d_X9_explore x0 m).bind (fun q1 => (if (Int32.toInt (q1.1 (x0 + 3) 1)) = 0 then some (((q1.1 (x0 + 3) 0), q1)) else some (((q1.1 (x0 + 3) 1), q1)))))
set_option maxHeartbeats 8000000 in
theorem k_X9_states {u : Nat} {N : Nat} {Φ : (Option (Int32 × dc_M)) → Option Value → dc_M → Prop} (x0 : Nat) (m : dc_M) (kR : ∀ (v : Int32) (m : dc_M), Φ (some ((v, m))) (some (.int v)) m)  {lv : ab_L} (f0 : ab_lk lv 0 = some (.ref x0)) : dc_pv u N ab_M_X9_states 0 lv [] m (Φ (d_X9_states x0 m)) := by
  refine dc_pv.mono (dc_ok (C := C_X9_states) (S := S_X9_states) CO_X9_states 400 0 [(0, .ref x0)] lv [] m (dc_sub_cons f0 (dc_sub_nil)) ?_) (Nat.le_succ N)
  unfold d_X9_states
  refine dg_s (pc' := 1) [.ref x0] rfl (fun _ => rfl) rfl ?_
  refine dw_b (fun t => Φ t) (pc' := 4) (fun q1 => []) (fun q1 => q1) rfl (fun _ => rfl) (fun q1 => ?_)
  refine dw_g rfl ?_
  refine dg_s (pc' := 5) [.ref x0] rfl (fun _ => rfl) rfl ?_
  refine dg_s (pc' := 8) [.ref (x0 + 3)] rfl (fun _ => rfl) rfl ?_
  refine dg_s (pc' := 11) [.int (q1.1 (x0 + 3) 1)] rfl (fun _ => rfl) rfl ?_
  refine dw_if (fun t => Φ t) ((Int32.toInt (q1.1 (x0 + 3) 1)) = 0) [] 24 14 rfl (fun _ => rfl) (fun c0 => ?_) (fun c0 => ?_)
  · refine dw_g rfl ?_
    refine dg_s (pc' := 25) [.ref x0] rfl (fun _ => rfl) rfl ?_
    refine dg_s (pc' := 28) [.ref (x0 + 3)] rfl (fun _ => rfl) rfl ?_
    refine dg_s (pc' := 31) [.int (q1.1 (x0 + 3) 0)] rfl (fun _ => rfl) rfl ?_
    exact dw_r (some (.inl (some (.int (q1.1 (x0 + 3) 0)), q1))) rfl (fun _ => rfl) (kR _ _)
  · refine dw_g rfl ?_
    refine dg_s (pc' := 15) [.ref x0] rfl (fun _ => rfl) rfl ?_
    refine dg_s (pc' := 18) [.ref (x0 + 3)] rfl (fun _ => rfl) rfl ?_
    refine dg_s (pc' := 21) [.int (q1.1 (x0 + 3) 1)] rfl (fun _ => rfl) rfl ?_
    refine dg_s (pc' := 31) [.int (q1.1 (x0 + 3) 1)] rfl (fun _ => rfl) rfl ?_
    exact dw_r (some (.inl (some (.int (q1.1 (x0 + 3) 1)), q1))) rfl (fun _ => rfl) (kR _ _)
noncomputable def H_X9_states : dc_H := fun As m k => match As with
  | [.ref x0] => (d_X9_states x0 m).bind (fun q => k (some (.int q.1)) q.2)
  | _ => dc_kz
theorem H_X9_states_ok {u : Nat} : dc_cok u 108 H_X9_states := fun M' hG N As m k P hz hP => by
  obtain rfl : ab_M_X9_states = M' := Option.some.inj hG
  unfold H_X9_states at hP
  split at hP
  · rename_i x0
    exact dc_pv.imp (k_X9_states (Φ := fun (t : Option (Int32 × dc_M)) r m' => P (t.bind (fun q => k (some (.int q.1)) q.2)) → P (k r m')) x0 m (fun _ _ h => h) rfl) (fun r m' h => h hP)
  · exact absurd hP hz
noncomputable def C_X9_isRight : List (Nat × dc_H) := [(134, H_X9_explore)]
theorem CO_X9_isRight {u : Nat} : dc_CO u C_X9_isRight := dc_CO_cons H_X9_explore_ok (dc_CO_nil)
def S_X9_isRight : List (Nat × List Nat) := []
noncomputable def d_X9_isRight (x0 : Nat) (m : dc_M) : Option (Int32 × dc_M) :=
  ((d_X9_explore x0 m).bind (fun q1 => some (((q1.1 (x0 + 3) 3), q1))))
set_option maxHeartbeats 8000000 in
theorem k_X9_isRight {u : Nat} {N : Nat} {Φ : (Option (Int32 × dc_M)) → Option Value → dc_M → Prop} (x0 : Nat) (m : dc_M) (kR : ∀ (v : Int32) (m : dc_M), Φ (some ((v, m))) (some (.int v)) m)  {lv : ab_L} (f0 : ab_lk lv 0 = some (.ref x0)) : dc_pv u N ab_M_X9_isRight 0 lv [] m (Φ (d_X9_isRight x0 m)) := by
  refine dc_pv.mono (dc_ok (C := C_X9_isRight) (S := S_X9_isRight) CO_X9_isRight 400 0 [(0, .ref x0)] lv [] m (dc_sub_cons f0 (dc_sub_nil)) ?_) (Nat.le_succ N)
  unfold d_X9_isRight
  refine dg_s (pc' := 1) [.ref x0] rfl (fun _ => rfl) rfl ?_
  refine dw_b (fun t => Φ t) (pc' := 4) (fun q1 => []) (fun q1 => q1) rfl (fun _ => rfl) (fun q1 => ?_)
  refine dw_g rfl ?_
  refine dg_s (pc' := 5) [.ref x0] rfl (fun _ => rfl) rfl ?_
  refine dg_s (pc' := 8) [.ref (x0 + 3)] rfl (fun _ => rfl) rfl ?_
  refine dg_s (pc' := 11) [.int (q1.1 (x0 + 3) 3)] rfl (fun _ => rfl) rfl ?_
  exact dw_r (some (.inl (some (.int (q1.1 (x0 + 3) 3)), q1))) rfl (fun _ => rfl) (kR _ _)
noncomputable def H_X9_isRight : dc_H := fun As m k => match As with
  | [.ref x0] => (d_X9_isRight x0 m).bind (fun q => k (some (.int q.1)) q.2)
  | _ => dc_kz
theorem H_X9_isRight_ok {u : Nat} : dc_cok u 135 H_X9_isRight := fun M' hG N As m k P hz hP => by
  obtain rfl : ab_M_X9_isRight = M' := Option.some.inj hG
  unfold H_X9_isRight at hP
  split at hP
  · rename_i x0
    exact dc_pv.imp (k_X9_isRight (Φ := fun (t : Option (Int32 × dc_M)) r m' => P (t.bind (fun q => k (some (.int q.1)) q.2)) → P (k r m')) x0 m (fun _ _ h => h) rfl) (fun r m' h => h hP)
  · exact absurd hP hz
noncomputable def C_X9_right : List (Nat × dc_H) := [(135, H_X9_isRight)]
theorem CO_X9_right {u : Nat} : dc_CO u C_X9_right := dc_CO_cons H_X9_isRight_ok (dc_CO_nil)
def S_X9_right : List (Nat × List Nat) := []
noncomputable def d_X9_right (x0 : Nat) (m : dc_M) : Option (Int32 × dc_M) :=
  ((d_X9_isRight x0 m).bind (fun q1 => (if (Int32.toInt q1.1) = 0 then some (((0 : Int32), q1.2)) else some (((1 : Int32), q1.2)))))
set_option maxHeartbeats 8000000 in
theorem k_X9_right {u : Nat} {N : Nat} {Φ : (Option (Int32 × dc_M)) → Option Value → dc_M → Prop} (x0 : Nat) (m : dc_M) (kR : ∀ (v : Int32) (m : dc_M), Φ (some ((v, m))) (some (.int v)) m)  {lv : ab_L} (f0 : ab_lk lv 0 = some (.ref x0)) : dc_pv u N ab_M_X9_right 0 lv [] m (Φ (d_X9_right x0 m)) := by
  refine dc_pv.mono (dc_ok (C := C_X9_right) (S := S_X9_right) CO_X9_right 400 0 [(0, .ref x0)] lv [] m (dc_sub_cons f0 (dc_sub_nil)) ?_) (Nat.le_succ N)
  unfold d_X9_right
  refine dg_s (pc' := 1) [.ref x0] rfl (fun _ => rfl) rfl ?_
  refine dw_b (fun t => Φ t) (pc' := 4) (fun q1 => [.int q1.1]) (fun q1 => q1.2) rfl (fun _ => rfl) (fun q1 => ?_)
  refine dw_g rfl ?_
  refine dw_if (fun t => Φ t) ((Int32.toInt q1.1) = 0) [] 11 7 rfl (fun _ => rfl) (fun c0 => ?_) (fun c0 => ?_)
  · refine dw_g rfl ?_
    refine dg_s (pc' := 12) [.int (0 : Int32)] rfl (fun _ => rfl) rfl ?_
    exact dw_r (some (.inl (some (.int (0 : Int32)), q1.2))) rfl (fun _ => rfl) (kR _ _)
  · refine dw_g rfl ?_
    refine dg_s (pc' := 8) [.int (1 : Int32)] rfl (fun _ => rfl) rfl ?_
    refine dg_s (pc' := 12) [.int (1 : Int32)] rfl (fun _ => rfl) rfl ?_
    exact dw_r (some (.inl (some (.int (1 : Int32)), q1.2))) rfl (fun _ => rfl) (kR _ _)
noncomputable def H_X9_right : dc_H := fun As m k => match As with
  | [.ref x0] => (d_X9_right x0 m).bind (fun q => k (some (.int q.1)) q.2)
  | _ => dc_kz
theorem H_X9_right_ok {u : Nat} : dc_cok u 109 H_X9_right := fun M' hG N As m k P hz hP => by
  obtain rfl : ab_M_X9_right = M' := Option.some.inj hG
  unfold H_X9_right at hP
  split at hP
  · rename_i x0
    exact dc_pv.imp (k_X9_right (Φ := fun (t : Option (Int32 × dc_M)) r m' => P (t.bind (fun q => k (some (.int q.1)) q.2)) → P (k r m')) x0 m (fun _ _ h => h) rfl) (fun r m' h => h hP)
  · exact absurd hP hz
noncomputable def C_X9_of : List (Nat × dc_H) := [(26, H_X3_hasEvent), (83, H_X7_aims), (84, H_X7_behind), (134, H_X9_explore)]
theorem CO_X9_of {u : Nat} : dc_CO u C_X9_of := dc_CO_cons H_X3_hasEvent_ok (dc_CO_cons H_X7_aims_ok (dc_CO_cons H_X7_behind_ok (dc_CO_cons H_X9_explore_ok (dc_CO_nil))))
def S_X9_of : List (Nat × List Nat) := []
noncomputable def d_X9_of (x0 : Nat) (x1 : Int32) (x2 : Int32) (m : dc_M) : Option (Int32 × dc_M) :=
  ((d_X9_explore x0 m).bind (fun q1 => (if (Int32.toInt x1) < 0 then some (((-1 : Int32), q1)) else (if (Int32.toInt x1) < (Int32.toInt (q1.1 (x0 + 3) 0)) then (if (Int32.toInt x2) < 10 then (if (Int32.toInt x2) < 0 then some (((-1 : Int32), q1)) else (if (Int32.toInt x2) ≤ 4 then (if ¬ (Int32.toInt x2) = 0 then (if ¬ (Int32.toInt x2) = 1 then (if ¬ (Int32.toInt (q1.1 (x0 + 3) 3)) = 0 then (if ¬ (Int32.toInt x2) = 2 then (if ¬ (Int32.toInt x2) = 3 then some (((d_X7_aims (x0 + 3) x1 q1), q1)) else some (((q1.1 ((x0 + 3) + 4) (Int32.toNatClampNeg x1)), q1))) else some (((q1.1 ((x0 + 3) + 3) (Int32.toNatClampNeg x1)), q1))) else some (((-2 : Int32), q1))) else some (((q1.1 ((x0 + 3) + 2) (Int32.toNatClampNeg x1)), q1))) else some (((q1.1 ((x0 + 3) + 1) (Int32.toNatClampNeg x1)), q1))) else some (((-1 : Int32), q1)))) else (if (Int32.toInt (d_X3_hasEvent (q1.2.2.1 x0 7) (x2 - (10 : Int32)) q1)) = 0 then some (((-1 : Int32), q1)) else some (((d_X7_behind (x0 + 3) x1 (x2 - (10 : Int32)) q1), q1)))) else some (((-1 : Int32), q1))))))
set_option maxHeartbeats 8000000 in
theorem k_X9_of {u : Nat} {N : Nat} {Φ : (Option (Int32 × dc_M)) → Option Value → dc_M → Prop} (x0 : Nat) (x1 : Int32) (x2 : Int32) (m : dc_M) (kR : ∀ (v : Int32) (m : dc_M), Φ (some ((v, m))) (some (.int v)) m)  {lv : ab_L} (f0 : ab_lk lv 0 = some (.ref x0)) (f1 : ab_lk lv 1 = some (.int x1)) (f2 : ab_lk lv 2 = some (.int x2)) : dc_pv u N ab_M_X9_of 0 lv [] m (Φ (d_X9_of x0 x1 x2 m)) := by
  refine dc_pv.mono (dc_ok (C := C_X9_of) (S := S_X9_of) CO_X9_of 400 0 [(0, .ref x0), (1, .int x1), (2, .int x2)] lv [] m (dc_sub_cons f0 (dc_sub_cons f1 (dc_sub_cons f2 (dc_sub_nil)))) ?_) (Nat.le_succ N)
  unfold d_X9_of
  refine dg_s (pc' := 1) [.ref x0] rfl (fun _ => rfl) rfl ?_
  refine dw_b (fun t => Φ t) (pc' := 4) (fun q1 => []) (fun q1 => q1) rfl (fun _ => rfl) (fun q1 => ?_)
  refine dw_g rfl ?_
  refine dg_s (pc' := 5) [.int x1] rfl (fun _ => rfl) rfl ?_
  refine dw_if (fun t => Φ t) ((Int32.toInt x1) < 0) [] 19 8 rfl (fun _ => rfl) (fun c0 => ?_) (fun c0 => ?_)
  · refine dw_g rfl ?_
    refine dg_s (pc' := 20) [.int (-1 : Int32)] rfl (fun _ => rfl) rfl ?_
    exact dw_r (some (.inl (some (.int (-1 : Int32)), q1))) rfl (fun _ => rfl) (kR _ _)
  · refine dw_g rfl ?_
    refine dg_s (pc' := 9) [.int x1] rfl (fun _ => rfl) rfl ?_
    refine dg_s (pc' := 10) [.ref x0, .int x1] rfl (fun _ => rfl) rfl ?_
    refine dg_s (pc' := 13) [.ref (x0 + 3), .int x1] rfl (fun _ => rfl) rfl ?_
    refine dg_s (pc' := 16) [.int (q1.1 (x0 + 3) 0), .int x1] rfl (fun _ => rfl) rfl ?_
    refine dw_if (fun t => Φ t) ((Int32.toInt x1) < (Int32.toInt (q1.1 (x0 + 3) 0))) [] 21 19 rfl (fun _ => rfl) (fun c1 => ?_) (fun c1 => ?_)
    · refine dw_g rfl ?_
      refine dg_s (pc' := 22) [.int x2] rfl (fun _ => rfl) rfl ?_
      refine dg_s (pc' := 24) [.int (10 : Int32), .int x2] rfl (fun _ => rfl) rfl ?_
      refine dw_if (fun t => Φ t) ((Int32.toInt x2) < 10) [] 58 27 rfl (fun _ => rfl) (fun c2 => ?_) (fun c2 => ?_)
      · refine dw_g rfl ?_
        refine dg_s (pc' := 59) [.int x2] rfl (fun _ => rfl) rfl ?_
        refine dw_if (fun t => Φ t) ((Int32.toInt x2) < 0) [] 67 62 rfl (fun _ => rfl) (fun c3 => ?_) (fun c3 => ?_)
        · refine dw_g rfl ?_
          refine dg_s (pc' := 68) [.int (-1 : Int32)] rfl (fun _ => rfl) rfl ?_
          exact dw_r (some (.inl (some (.int (-1 : Int32)), q1))) rfl (fun _ => rfl) (kR _ _)
        · refine dw_g rfl ?_
          refine dg_s (pc' := 63) [.int x2] rfl (fun _ => rfl) rfl ?_
          refine dg_s (pc' := 64) [.int (4 : Int32), .int x2] rfl (fun _ => rfl) rfl ?_
          refine dw_if (fun t => Φ t) ((Int32.toInt x2) ≤ 4) [] 69 67 rfl (fun _ => rfl) (fun c4 => ?_) (fun c4 => ?_)
          · refine dw_g rfl ?_
            refine dg_s (pc' := 70) [.int x2] rfl (fun _ => rfl) rfl ?_
            refine dw_if (fun t => Φ t) (¬ (Int32.toInt x2) = 0) [] 83 73 rfl (fun _ => rfl) (fun c5 => ?_) (fun c5 => ?_)
            · refine dw_g rfl ?_
              refine dg_s (pc' := 84) [.int x2] rfl (fun _ => rfl) rfl ?_
              refine dg_s (pc' := 85) [.int (1 : Int32), .int x2] rfl (fun _ => rfl) rfl ?_
              refine dw_if (fun t => Φ t) (¬ (Int32.toInt x2) = 1) [] 98 88 rfl (fun _ => rfl) (fun c6 => ?_) (fun c6 => ?_)
              · refine dw_g rfl ?_
                refine dg_s (pc' := 99) [.ref x0] rfl (fun _ => rfl) rfl ?_
                refine dg_s (pc' := 102) [.ref (x0 + 3)] rfl (fun _ => rfl) rfl ?_
                refine dg_s (pc' := 105) [.int (q1.1 (x0 + 3) 3)] rfl (fun _ => rfl) rfl ?_
                refine dw_if (fun t => Φ t) (¬ (Int32.toInt (q1.1 (x0 + 3) 3)) = 0) [] 111 108 rfl (fun _ => rfl) (fun c7 => ?_) (fun c7 => ?_)
                · refine dw_g rfl ?_
                  refine dg_s (pc' := 112) [.int x2] rfl (fun _ => rfl) rfl ?_
                  refine dg_s (pc' := 113) [.int (2 : Int32), .int x2] rfl (fun _ => rfl) rfl ?_
                  refine dw_if (fun t => Φ t) (¬ (Int32.toInt x2) = 2) [] 128 116 rfl (fun _ => rfl) (fun c8 => ?_) (fun c8 => ?_)
                  · refine dw_g rfl ?_
                    refine dg_s (pc' := 129) [.int x2] rfl (fun _ => rfl) rfl ?_
                    refine dg_s (pc' := 130) [.int (3 : Int32), .int x2] rfl (fun _ => rfl) rfl ?_
                    refine dw_if (fun t => Φ t) (¬ (Int32.toInt x2) = 3) [] 145 133 rfl (fun _ => rfl) (fun c9 => ?_) (fun c9 => ?_)
                    · refine dw_g rfl ?_
                      refine dg_s (pc' := 146) [.ref x0] rfl (fun _ => rfl) rfl ?_
                      refine dg_s (pc' := 149) [.ref (x0 + 3)] rfl (fun _ => rfl) rfl ?_
                      refine dg_s (pc' := 150) [.int x1, .ref (x0 + 3)] rfl (fun _ => rfl) rfl ?_
                      refine dg_s (pc' := 153) [.int (d_X7_aims (x0 + 3) x1 q1)] rfl (fun _ => rfl) rfl ?_
                      exact dw_r (some (.inl (some (.int (d_X7_aims (x0 + 3) x1 q1)), q1))) rfl (fun _ => rfl) (kR _ _)
                    · refine dw_g rfl ?_
                      refine dg_s (pc' := 134) [.ref x0] rfl (fun _ => rfl) rfl ?_
                      refine dg_s (pc' := 137) [.ref (x0 + 3)] rfl (fun _ => rfl) rfl ?_
                      refine dg_s (pc' := 140) [.ref ((x0 + 3) + 4)] rfl (fun _ => rfl) rfl ?_
                      refine dg_s (pc' := 141) [.int x1, .ref ((x0 + 3) + 4)] rfl (fun _ => rfl) rfl ?_
                      refine dg_s (pc' := 142) [.int (q1.1 ((x0 + 3) + 4) (Int32.toNatClampNeg x1))] rfl (fun _ => rfl) rfl ?_
                      refine dg_s (pc' := 153) [.int (q1.1 ((x0 + 3) + 4) (Int32.toNatClampNeg x1))] rfl (fun _ => rfl) rfl ?_
                      exact dw_r (some (.inl (some (.int (q1.1 ((x0 + 3) + 4) (Int32.toNatClampNeg x1))), q1))) rfl (fun _ => rfl) (kR _ _)
                  · refine dw_g rfl ?_
                    refine dg_s (pc' := 117) [.ref x0] rfl (fun _ => rfl) rfl ?_
                    refine dg_s (pc' := 120) [.ref (x0 + 3)] rfl (fun _ => rfl) rfl ?_
                    refine dg_s (pc' := 123) [.ref ((x0 + 3) + 3)] rfl (fun _ => rfl) rfl ?_
                    refine dg_s (pc' := 124) [.int x1, .ref ((x0 + 3) + 3)] rfl (fun _ => rfl) rfl ?_
                    refine dg_s (pc' := 125) [.int (q1.1 ((x0 + 3) + 3) (Int32.toNatClampNeg x1))] rfl (fun _ => rfl) rfl ?_
                    refine dg_s (pc' := 153) [.int (q1.1 ((x0 + 3) + 3) (Int32.toNatClampNeg x1))] rfl (fun _ => rfl) rfl ?_
                    exact dw_r (some (.inl (some (.int (q1.1 ((x0 + 3) + 3) (Int32.toNatClampNeg x1))), q1))) rfl (fun _ => rfl) (kR _ _)
                · refine dw_g rfl ?_
                  refine dg_s (pc' := 110) [.int (-2 : Int32)] rfl (fun _ => rfl) rfl ?_
                  exact dw_r (some (.inl (some (.int (-2 : Int32)), q1))) rfl (fun _ => rfl) (kR _ _)
              · refine dw_g rfl ?_
                refine dg_s (pc' := 89) [.ref x0] rfl (fun _ => rfl) rfl ?_
                refine dg_s (pc' := 92) [.ref (x0 + 3)] rfl (fun _ => rfl) rfl ?_
                refine dg_s (pc' := 95) [.ref ((x0 + 3) + 2)] rfl (fun _ => rfl) rfl ?_
                refine dg_s (pc' := 96) [.int x1, .ref ((x0 + 3) + 2)] rfl (fun _ => rfl) rfl ?_
                refine dg_s (pc' := 97) [.int (q1.1 ((x0 + 3) + 2) (Int32.toNatClampNeg x1))] rfl (fun _ => rfl) rfl ?_
                exact dw_r (some (.inl (some (.int (q1.1 ((x0 + 3) + 2) (Int32.toNatClampNeg x1))), q1))) rfl (fun _ => rfl) (kR _ _)
            · refine dw_g rfl ?_
              refine dg_s (pc' := 74) [.ref x0] rfl (fun _ => rfl) rfl ?_
              refine dg_s (pc' := 77) [.ref (x0 + 3)] rfl (fun _ => rfl) rfl ?_
              refine dg_s (pc' := 80) [.ref ((x0 + 3) + 1)] rfl (fun _ => rfl) rfl ?_
              refine dg_s (pc' := 81) [.int x1, .ref ((x0 + 3) + 1)] rfl (fun _ => rfl) rfl ?_
              refine dg_s (pc' := 82) [.int (q1.1 ((x0 + 3) + 1) (Int32.toNatClampNeg x1))] rfl (fun _ => rfl) rfl ?_
              exact dw_r (some (.inl (some (.int (q1.1 ((x0 + 3) + 1) (Int32.toNatClampNeg x1))), q1))) rfl (fun _ => rfl) (kR _ _)
          · refine dw_g rfl ?_
            refine dg_s (pc' := 68) [.int (-1 : Int32)] rfl (fun _ => rfl) rfl ?_
            exact dw_r (some (.inl (some (.int (-1 : Int32)), q1))) rfl (fun _ => rfl) (kR _ _)
      · refine dw_g rfl ?_
        refine dg_s (pc' := 28) [.ref x0] rfl (fun _ => rfl) rfl ?_
        refine dg_s (pc' := 31) [.ref (q1.2.2.1 x0 7)] rfl (fun _ => rfl) rfl ?_
        refine dg_s (pc' := 32) [.int x2, .ref (q1.2.2.1 x0 7)] rfl (fun _ => rfl) rfl ?_
        refine dg_s (pc' := 34) [.int (10 : Int32), .int x2, .ref (q1.2.2.1 x0 7)] rfl (fun _ => rfl) rfl ?_
        refine dg_s (pc' := 35) [.int (x2 - (10 : Int32)), .ref (q1.2.2.1 x0 7)] rfl (fun _ => rfl) rfl ?_
        refine dg_s (pc' := 38) [.int (d_X3_hasEvent (q1.2.2.1 x0 7) (x2 - (10 : Int32)) q1)] rfl (fun _ => rfl) rfl ?_
        refine dw_if (fun t => Φ t) ((Int32.toInt (d_X3_hasEvent (q1.2.2.1 x0 7) (x2 - (10 : Int32)) q1)) = 0) [] 56 41 rfl (fun _ => rfl) (fun c3 => ?_) (fun c3 => ?_)
        · refine dw_g rfl ?_
          refine dg_s (pc' := 57) [.int (-1 : Int32)] rfl (fun _ => rfl) rfl ?_
          exact dw_r (some (.inl (some (.int (-1 : Int32)), q1))) rfl (fun _ => rfl) (kR _ _)
        · refine dw_g rfl ?_
          refine dg_s (pc' := 42) [.ref x0] rfl (fun _ => rfl) rfl ?_
          refine dg_s (pc' := 45) [.ref (x0 + 3)] rfl (fun _ => rfl) rfl ?_
          refine dg_s (pc' := 46) [.int x1, .ref (x0 + 3)] rfl (fun _ => rfl) rfl ?_
          refine dg_s (pc' := 47) [.int x2, .int x1, .ref (x0 + 3)] rfl (fun _ => rfl) rfl ?_
          refine dg_s (pc' := 49) [.int (10 : Int32), .int x2, .int x1, .ref (x0 + 3)] rfl (fun _ => rfl) rfl ?_
          refine dg_s (pc' := 50) [.int (x2 - (10 : Int32)), .int x1, .ref (x0 + 3)] rfl (fun _ => rfl) rfl ?_
          refine dg_s (pc' := 53) [.int (d_X7_behind (x0 + 3) x1 (x2 - (10 : Int32)) q1)] rfl (fun _ => rfl) rfl ?_
          refine dg_s (pc' := 57) [.int (d_X7_behind (x0 + 3) x1 (x2 - (10 : Int32)) q1)] rfl (fun _ => rfl) rfl ?_
          exact dw_r (some (.inl (some (.int (d_X7_behind (x0 + 3) x1 (x2 - (10 : Int32)) q1)), q1))) rfl (fun _ => rfl) (kR _ _)
    · refine dw_g rfl ?_
      refine dg_s (pc' := 20) [.int (-1 : Int32)] rfl (fun _ => rfl) rfl ?_
      exact dw_r (some (.inl (some (.int (-1 : Int32)), q1))) rfl (fun _ => rfl) (kR _ _)
noncomputable def H_X9_of : dc_H := fun As m k => match As with
  | [.ref x0, .int x1, .int x2] => (d_X9_of x0 x1 x2 m).bind (fun q => k (some (.int q.1)) q.2)
  | _ => dc_kz
theorem H_X9_of_ok {u : Nat} : dc_cok u 110 H_X9_of := fun M' hG N As m k P hz hP => by
  obtain rfl : ab_M_X9_of = M' := Option.some.inj hG
  unfold H_X9_of at hP
  split at hP
  · rename_i x0 x1 x2
    exact dc_pv.imp (k_X9_of (Φ := fun (t : Option (Int32 × dc_M)) r m' => P (t.bind (fun q => k (some (.int q.1)) q.2)) → P (k r m')) x0 x1 x2 m (fun _ _ h => h) rfl rfl rfl) (fun r m' h => h hP)
  · exact absurd hP hz
noncomputable def C_X9_findClashes : List (Nat × dc_H) := [(1, H_X0_find)]
theorem CO_X9_findClashes {u : Nat} : dc_CO u C_X9_findClashes := dc_CO_cons H_X0_find_ok (dc_CO_nil)
def S_X9_findClashes : List (Nat × List Nat) := []
noncomputable def d_X9_findClashes (x0 : Nat) (m : dc_M) : Option dc_M :=
  (if ¬ (Int32.toInt (m.1 x0 12)) = 0 then some (m) else ((d_X0_find (x0 + 11) (m.2.2.1 x0 7) (x0 + 3) m).bind (fun q1 => some ((dc_wi q1 x0 12 (1 : Int32))))))
set_option maxHeartbeats 8000000 in
theorem k_X9_findClashes {u : Nat} {N : Nat} {Φ : (Option dc_M) → Option Value → dc_M → Prop} (x0 : Nat) (m : dc_M) (kR : ∀  (m : dc_M), Φ (some (m)) (none) m)  {lv : ab_L} (f0 : ab_lk lv 0 = some (.ref x0)) : dc_pv u N ab_M_X9_findClashes 0 lv [] m (Φ (d_X9_findClashes x0 m)) := by
  refine dc_pv.mono (dc_ok (C := C_X9_findClashes) (S := S_X9_findClashes) CO_X9_findClashes 400 0 [(0, .ref x0)] lv [] m (dc_sub_cons f0 (dc_sub_nil)) ?_) (Nat.le_succ N)
  unfold d_X9_findClashes
  refine dg_s (pc' := 1) [.ref x0] rfl (fun _ => rfl) rfl ?_
  refine dg_s (pc' := 4) [.int (m.1 x0 12)] rfl (fun _ => rfl) rfl ?_
  refine dw_if (fun t => Φ t) (¬ (Int32.toInt (m.1 x0 12)) = 0) [] 27 7 rfl (fun _ => rfl) (fun c0 => ?_) (fun c0 => ?_)
  · refine dw_g rfl ?_
    exact dw_r (some (.inl (none, m))) rfl (fun _ => rfl) (kR _)
  · refine dw_g rfl ?_
    refine dg_s (pc' := 8) [.ref x0] rfl (fun _ => rfl) rfl ?_
    refine dg_s (pc' := 11) [.ref (x0 + 11)] rfl (fun _ => rfl) rfl ?_
    refine dg_s (pc' := 12) [.ref x0, .ref (x0 + 11)] rfl (fun _ => rfl) rfl ?_
    refine dg_s (pc' := 15) [.ref (m.2.2.1 x0 7), .ref (x0 + 11)] rfl (fun _ => rfl) rfl ?_
    refine dg_s (pc' := 16) [.ref x0, .ref (m.2.2.1 x0 7), .ref (x0 + 11)] rfl (fun _ => rfl) rfl ?_
    refine dg_s (pc' := 19) [.ref (x0 + 3), .ref (m.2.2.1 x0 7), .ref (x0 + 11)] rfl (fun _ => rfl) rfl ?_
    refine dw_b (fun t => Φ t) (pc' := 22) (fun q1 => []) (fun q1 => q1) rfl (fun _ => rfl) (fun q1 => ?_)
    refine dw_g rfl ?_
    refine dg_s (pc' := 23) [.ref x0] rfl (fun _ => rfl) rfl ?_
    refine dg_s (pc' := 24) [.int (1 : Int32), .ref x0] rfl (fun _ => rfl) rfl ?_
    refine dg_m (pc' := 27) (dc_wi q1 x0 12 (1 : Int32)) [] rfl (fun _ => rfl) rfl ?_
    exact dw_r (some (.inl (none, (dc_wi q1 x0 12 (1 : Int32))))) rfl (fun _ => rfl) (kR _)
noncomputable def H_X9_findClashes : dc_H := fun As m k => match As with
  | [.ref x0] => (d_X9_findClashes x0 m).bind (fun q => k (none) q)
  | _ => dc_kz
theorem H_X9_findClashes_ok {u : Nat} : dc_cok u 136 H_X9_findClashes := fun M' hG N As m k P hz hP => by
  obtain rfl : ab_M_X9_findClashes = M' := Option.some.inj hG
  unfold H_X9_findClashes at hP
  split at hP
  · rename_i x0
    exact dc_pv.imp (k_X9_findClashes (Φ := fun (t : Option dc_M) r m' => P (t.bind (fun q => k (none) q)) → P (k r m')) x0 m (fun _ h => h) rfl) (fun r m' h => h hP)
  · exact absurd hP hz
noncomputable def C_X9_quarrels : List (Nat × dc_H) := [(136, H_X9_findClashes), (135, H_X9_isRight)]
theorem CO_X9_quarrels {u : Nat} : dc_CO u C_X9_quarrels := dc_CO_cons H_X9_findClashes_ok (dc_CO_cons H_X9_isRight_ok (dc_CO_nil))
def S_X9_quarrels : List (Nat × List Nat) := []
noncomputable def d_X9_quarrels (x0 : Nat) (x1 : Int32) (m : dc_M) : Option (Int32 × dc_M) :=
  (if (Int32.toInt x1) < 0 then some (((-1 : Int32), m)) else (if (Int32.toInt x1) ≤ 3 then ((d_X9_isRight x0 m).bind (fun q1 => (if ¬ (Int32.toInt q1.1) = 0 then ((d_X9_findClashes x0 q1.2).bind (fun q2 => (if (Int32.toInt x1) = 0 then some (((q2.1 (x0 + 11) 0), q2)) else (if (Int32.toInt x1) = 1 then some (((q2.1 (x0 + 11) 1), q2)) else (if (Int32.toInt x1) = 2 then some (((q2.1 (x0 + 11) 2), q2)) else some (((q2.1 (x0 + 11) 3), q2))))))) else some (((-2 : Int32), q1.2))))) else some (((-1 : Int32), m))))
set_option maxHeartbeats 8000000 in
theorem k_X9_quarrels {u : Nat} {N : Nat} {Φ : (Option (Int32 × dc_M)) → Option Value → dc_M → Prop} (x0 : Nat) (x1 : Int32) (m : dc_M) (kR : ∀ (v : Int32) (m : dc_M), Φ (some ((v, m))) (some (.int v)) m)  {lv : ab_L} (f0 : ab_lk lv 0 = some (.ref x0)) (f1 : ab_lk lv 1 = some (.int x1)) : dc_pv u N ab_M_X9_quarrels 0 lv [] m (Φ (d_X9_quarrels x0 x1 m)) := by
  refine dc_pv.mono (dc_ok (C := C_X9_quarrels) (S := S_X9_quarrels) CO_X9_quarrels 400 0 [(0, .ref x0), (1, .int x1)] lv [] m (dc_sub_cons f0 (dc_sub_cons f1 (dc_sub_nil))) ?_) (Nat.le_succ N)
  unfold d_X9_quarrels
  refine dg_s (pc' := 1) [.int x1] rfl (fun _ => rfl) rfl ?_
  refine dw_if (fun t => Φ t) ((Int32.toInt x1) < 0) [] 9 4 rfl (fun _ => rfl) (fun c0 => ?_) (fun c0 => ?_)
  · refine dw_g rfl ?_
    refine dg_s (pc' := 10) [.int (-1 : Int32)] rfl (fun _ => rfl) rfl ?_
    exact dw_r (some (.inl (some (.int (-1 : Int32)), m))) rfl (fun _ => rfl) (kR _ _)
  · refine dw_g rfl ?_
    refine dg_s (pc' := 5) [.int x1] rfl (fun _ => rfl) rfl ?_
    refine dg_s (pc' := 6) [.int (3 : Int32), .int x1] rfl (fun _ => rfl) rfl ?_
    refine dw_if (fun t => Φ t) ((Int32.toInt x1) ≤ 3) [] 11 9 rfl (fun _ => rfl) (fun c1 => ?_) (fun c1 => ?_)
    · refine dw_g rfl ?_
      refine dg_s (pc' := 12) [.ref x0] rfl (fun _ => rfl) rfl ?_
      refine dw_b (fun t => Φ t) (pc' := 15) (fun q1 => [.int q1.1]) (fun q1 => q1.2) rfl (fun _ => rfl) (fun q1 => ?_)
      refine dw_g rfl ?_
      refine dw_if (fun t => Φ t) (¬ (Int32.toInt q1.1) = 0) [] 21 18 rfl (fun _ => rfl) (fun c2 => ?_) (fun c2 => ?_)
      · refine dw_g rfl ?_
        refine dg_s (pc' := 22) [.ref x0] rfl (fun _ => rfl) rfl ?_
        refine dw_b (fun t => Φ t) (pc' := 25) (fun q2 => []) (fun q2 => q2) rfl (fun _ => rfl) (fun q2 => ?_)
        refine dw_g rfl ?_
        refine dg_s (pc' := 26) [.int x1] rfl (fun _ => rfl) rfl ?_
        refine dw_sw (fun t => Φ t) ((Int32.toInt x1)) 76 [(0, 52), (1, 60), (2, 68)] [] rfl (fun _ => rfl) ?_
        refine dw_ts (fun t => Φ t) (fun c3 => ?_) (fun c3 => ?_)
        · refine dw_g rfl ?_
          refine dg_s (pc' := 53) [.ref x0] rfl (fun _ => rfl) rfl ?_
          refine dg_s (pc' := 56) [.ref (x0 + 11)] rfl (fun _ => rfl) rfl ?_
          refine dg_s (pc' := 59) [.int (q2.1 (x0 + 11) 0)] rfl (fun _ => rfl) rfl ?_
          exact dw_r (some (.inl (some (.int (q2.1 (x0 + 11) 0)), q2))) rfl (fun _ => rfl) (kR _ _)
        refine dw_ts (fun t => Φ t) (fun c4 => ?_) (fun c4 => ?_)
        · refine dw_g rfl ?_
          refine dg_s (pc' := 61) [.ref x0] rfl (fun _ => rfl) rfl ?_
          refine dg_s (pc' := 64) [.ref (x0 + 11)] rfl (fun _ => rfl) rfl ?_
          refine dg_s (pc' := 67) [.int (q2.1 (x0 + 11) 1)] rfl (fun _ => rfl) rfl ?_
          exact dw_r (some (.inl (some (.int (q2.1 (x0 + 11) 1)), q2))) rfl (fun _ => rfl) (kR _ _)
        refine dw_ts (fun t => Φ t) (fun c5 => ?_) (fun c5 => ?_)
        · refine dw_g rfl ?_
          refine dg_s (pc' := 69) [.ref x0] rfl (fun _ => rfl) rfl ?_
          refine dg_s (pc' := 72) [.ref (x0 + 11)] rfl (fun _ => rfl) rfl ?_
          refine dg_s (pc' := 75) [.int (q2.1 (x0 + 11) 2)] rfl (fun _ => rfl) rfl ?_
          exact dw_r (some (.inl (some (.int (q2.1 (x0 + 11) 2)), q2))) rfl (fun _ => rfl) (kR _ _)
        refine dw_t0 ?_
        refine dw_g rfl ?_
        refine dg_s (pc' := 77) [.ref x0] rfl (fun _ => rfl) rfl ?_
        refine dg_s (pc' := 80) [.ref (x0 + 11)] rfl (fun _ => rfl) rfl ?_
        refine dg_s (pc' := 83) [.int (q2.1 (x0 + 11) 3)] rfl (fun _ => rfl) rfl ?_
        exact dw_r (some (.inl (some (.int (q2.1 (x0 + 11) 3)), q2))) rfl (fun _ => rfl) (kR _ _)
      · refine dw_g rfl ?_
        refine dg_s (pc' := 20) [.int (-2 : Int32)] rfl (fun _ => rfl) rfl ?_
        exact dw_r (some (.inl (some (.int (-2 : Int32)), q1.2))) rfl (fun _ => rfl) (kR _ _)
    · refine dw_g rfl ?_
      refine dg_s (pc' := 10) [.int (-1 : Int32)] rfl (fun _ => rfl) rfl ?_
      exact dw_r (some (.inl (some (.int (-1 : Int32)), m))) rfl (fun _ => rfl) (kR _ _)
noncomputable def H_X9_quarrels : dc_H := fun As m k => match As with
  | [.ref x0, .int x1] => (d_X9_quarrels x0 x1 m).bind (fun q => k (some (.int q.1)) q.2)
  | _ => dc_kz
theorem H_X9_quarrels_ok {u : Nat} : dc_cok u 111 H_X9_quarrels := fun M' hG N As m k P hz hP => by
  obtain rfl : ab_M_X9_quarrels = M' := Option.some.inj hG
  unfold H_X9_quarrels at hP
  split at hP
  · rename_i x0 x1
    exact dc_pv.imp (k_X9_quarrels (Φ := fun (t : Option (Int32 × dc_M)) r m' => P (t.bind (fun q => k (some (.int q.1)) q.2)) → P (k r m')) x0 x1 m (fun _ _ h => h) rfl rfl) (fun r m' h => h hP)
  · exact absurd hP hz
noncomputable def C_X9_back : List (Nat × dc_H) := [(136, H_X9_findClashes), (135, H_X9_isRight)]
theorem CO_X9_back {u : Nat} : dc_CO u C_X9_back := dc_CO_cons H_X9_findClashes_ok (dc_CO_cons H_X9_isRight_ok (dc_CO_nil))
def S_X9_back : List (Nat × List Nat) := []
noncomputable def d_X9_back (x0 : Nat) (x1 : Int32) (m : dc_M) : Option (Int32 × dc_M) :=
  (if (Int32.toInt x1) < 0 then some (((-1 : Int32), m)) else (if (Int32.toInt x1) ≤ 3 then ((d_X9_isRight x0 m).bind (fun q1 => (if ¬ (Int32.toInt q1.1) = 0 then ((d_X9_findClashes x0 q1.2).bind (fun q2 => (if (Int32.toInt x1) = 0 then some (((q2.1 (x0 + 11) 4), q2)) else (if (Int32.toInt x1) = 1 then some (((q2.1 (x0 + 11) 5), q2)) else (if (Int32.toInt x1) = 2 then some (((q2.1 (x0 + 11) 6), q2)) else some (((q2.1 (x0 + 11) 7), q2))))))) else some (((-2 : Int32), q1.2))))) else some (((-1 : Int32), m))))
set_option maxHeartbeats 8000000 in
theorem k_X9_back {u : Nat} {N : Nat} {Φ : (Option (Int32 × dc_M)) → Option Value → dc_M → Prop} (x0 : Nat) (x1 : Int32) (m : dc_M) (kR : ∀ (v : Int32) (m : dc_M), Φ (some ((v, m))) (some (.int v)) m)  {lv : ab_L} (f0 : ab_lk lv 0 = some (.ref x0)) (f1 : ab_lk lv 1 = some (.int x1)) : dc_pv u N ab_M_X9_back 0 lv [] m (Φ (d_X9_back x0 x1 m)) := by
  refine dc_pv.mono (dc_ok (C := C_X9_back) (S := S_X9_back) CO_X9_back 400 0 [(0, .ref x0), (1, .int x1)] lv [] m (dc_sub_cons f0 (dc_sub_cons f1 (dc_sub_nil))) ?_) (Nat.le_succ N)
  unfold d_X9_back
  refine dg_s (pc' := 1) [.int x1] rfl (fun _ => rfl) rfl ?_
  refine dw_if (fun t => Φ t) ((Int32.toInt x1) < 0) [] 9 4 rfl (fun _ => rfl) (fun c0 => ?_) (fun c0 => ?_)
  · refine dw_g rfl ?_
    refine dg_s (pc' := 10) [.int (-1 : Int32)] rfl (fun _ => rfl) rfl ?_
    exact dw_r (some (.inl (some (.int (-1 : Int32)), m))) rfl (fun _ => rfl) (kR _ _)
  · refine dw_g rfl ?_
    refine dg_s (pc' := 5) [.int x1] rfl (fun _ => rfl) rfl ?_
    refine dg_s (pc' := 6) [.int (3 : Int32), .int x1] rfl (fun _ => rfl) rfl ?_
    refine dw_if (fun t => Φ t) ((Int32.toInt x1) ≤ 3) [] 11 9 rfl (fun _ => rfl) (fun c1 => ?_) (fun c1 => ?_)
    · refine dw_g rfl ?_
      refine dg_s (pc' := 12) [.ref x0] rfl (fun _ => rfl) rfl ?_
      refine dw_b (fun t => Φ t) (pc' := 15) (fun q1 => [.int q1.1]) (fun q1 => q1.2) rfl (fun _ => rfl) (fun q1 => ?_)
      refine dw_g rfl ?_
      refine dw_if (fun t => Φ t) (¬ (Int32.toInt q1.1) = 0) [] 21 18 rfl (fun _ => rfl) (fun c2 => ?_) (fun c2 => ?_)
      · refine dw_g rfl ?_
        refine dg_s (pc' := 22) [.ref x0] rfl (fun _ => rfl) rfl ?_
        refine dw_b (fun t => Φ t) (pc' := 25) (fun q2 => []) (fun q2 => q2) rfl (fun _ => rfl) (fun q2 => ?_)
        refine dw_g rfl ?_
        refine dg_s (pc' := 26) [.int x1] rfl (fun _ => rfl) rfl ?_
        refine dw_sw (fun t => Φ t) ((Int32.toInt x1)) 76 [(0, 52), (1, 60), (2, 68)] [] rfl (fun _ => rfl) ?_
        refine dw_ts (fun t => Φ t) (fun c3 => ?_) (fun c3 => ?_)
        · refine dw_g rfl ?_
          refine dg_s (pc' := 53) [.ref x0] rfl (fun _ => rfl) rfl ?_
          refine dg_s (pc' := 56) [.ref (x0 + 11)] rfl (fun _ => rfl) rfl ?_
          refine dg_s (pc' := 59) [.int (q2.1 (x0 + 11) 4)] rfl (fun _ => rfl) rfl ?_
          exact dw_r (some (.inl (some (.int (q2.1 (x0 + 11) 4)), q2))) rfl (fun _ => rfl) (kR _ _)
        refine dw_ts (fun t => Φ t) (fun c4 => ?_) (fun c4 => ?_)
        · refine dw_g rfl ?_
          refine dg_s (pc' := 61) [.ref x0] rfl (fun _ => rfl) rfl ?_
          refine dg_s (pc' := 64) [.ref (x0 + 11)] rfl (fun _ => rfl) rfl ?_
          refine dg_s (pc' := 67) [.int (q2.1 (x0 + 11) 5)] rfl (fun _ => rfl) rfl ?_
          exact dw_r (some (.inl (some (.int (q2.1 (x0 + 11) 5)), q2))) rfl (fun _ => rfl) (kR _ _)
        refine dw_ts (fun t => Φ t) (fun c5 => ?_) (fun c5 => ?_)
        · refine dw_g rfl ?_
          refine dg_s (pc' := 69) [.ref x0] rfl (fun _ => rfl) rfl ?_
          refine dg_s (pc' := 72) [.ref (x0 + 11)] rfl (fun _ => rfl) rfl ?_
          refine dg_s (pc' := 75) [.int (q2.1 (x0 + 11) 6)] rfl (fun _ => rfl) rfl ?_
          exact dw_r (some (.inl (some (.int (q2.1 (x0 + 11) 6)), q2))) rfl (fun _ => rfl) (kR _ _)
        refine dw_t0 ?_
        refine dw_g rfl ?_
        refine dg_s (pc' := 77) [.ref x0] rfl (fun _ => rfl) rfl ?_
        refine dg_s (pc' := 80) [.ref (x0 + 11)] rfl (fun _ => rfl) rfl ?_
        refine dg_s (pc' := 83) [.int (q2.1 (x0 + 11) 7)] rfl (fun _ => rfl) rfl ?_
        exact dw_r (some (.inl (some (.int (q2.1 (x0 + 11) 7)), q2))) rfl (fun _ => rfl) (kR _ _)
      · refine dw_g rfl ?_
        refine dg_s (pc' := 20) [.int (-2 : Int32)] rfl (fun _ => rfl) rfl ?_
        exact dw_r (some (.inl (some (.int (-2 : Int32)), q1.2))) rfl (fun _ => rfl) (kR _ _)
    · refine dw_g rfl ?_
      refine dg_s (pc' := 10) [.int (-1 : Int32)] rfl (fun _ => rfl) rfl ?_
      exact dw_r (some (.inl (some (.int (-1 : Int32)), m))) rfl (fun _ => rfl) (kR _ _)
noncomputable def H_X9_back : dc_H := fun As m k => match As with
  | [.ref x0, .int x1] => (d_X9_back x0 x1 m).bind (fun q => k (some (.int q.1)) q.2)
  | _ => dc_kz
theorem H_X9_back_ok {u : Nat} : dc_cok u 112 H_X9_back := fun M' hG N As m k P hz hP => by
  obtain rfl : ab_M_X9_back = M' := Option.some.inj hG
  unfold H_X9_back at hP
  split at hP
  · rename_i x0 x1
    exact dc_pv.imp (k_X9_back (Φ := fun (t : Option (Int32 × dc_M)) r m' => P (t.bind (fun q => k (some (.int q.1)) q.2)) → P (k r m')) x0 x1 m (fun _ _ h => h) rfl rfl) (fun r m' h => h hP)
  · exact absurd hP hz
noncomputable def C_X9_stuck : List (Nat × dc_H) := [(229, H_J6_bitCount_0f7a4), (86, H_X7_astray), (85, H_X7_ends), (134, H_X9_explore)]
theorem CO_X9_stuck {u : Nat} : dc_CO u C_X9_stuck := dc_CO_cons H_J6_bitCount_0f7a4_ok (dc_CO_cons H_X7_astray_ok (dc_CO_cons H_X7_ends_ok (dc_CO_cons H_X9_explore_ok (dc_CO_nil))))
def S_X9_stuck : List (Nat × List Nat) := []
noncomputable def d_X9_stuck (x0 : Nat) (x1 : Int32) (m : dc_M) : Option (Int32 × dc_M) :=
  (if (Int32.toInt x1) < 0 then some (((-1 : Int32), m)) else (if (Int32.toInt x1) ≤ 2 then ((d_X9_explore x0 m).bind (fun q1 => (if (Int32.toInt (q1.1 (x0 + 3) 1)) = 0 then (if (Int32.toInt x1) = 0 then ((d_X7_ends (x0 + 3) q1).bind (fun q2 => some ((q2, q1)))) else (if (Int32.toInt x1) = 1 then ((d_X7_astray (x0 + 3) q1).bind (fun q3 => some ((q3.1, q3.2)))) else some ((((q1.1 (q1.2.2.1 x0 7) 1) - (d_J6_bitCount_0f7a4 (q1.1 (x0 + 3) 2) q1)), q1)))) else some (((-2 : Int32), q1))))) else some (((-1 : Int32), m))))
set_option maxHeartbeats 8000000 in
theorem k_X9_stuck {u : Nat} {N : Nat} {Φ : (Option (Int32 × dc_M)) → Option Value → dc_M → Prop} (x0 : Nat) (x1 : Int32) (m : dc_M) (kR : ∀ (v : Int32) (m : dc_M), Φ (some ((v, m))) (some (.int v)) m)  {lv : ab_L} (f0 : ab_lk lv 0 = some (.ref x0)) (f1 : ab_lk lv 1 = some (.int x1)) : dc_pv u N ab_M_X9_stuck 0 lv [] m (Φ (d_X9_stuck x0 x1 m)) := by
  refine dc_pv.mono (dc_ok (C := C_X9_stuck) (S := S_X9_stuck) CO_X9_stuck 400 0 [(0, .ref x0), (1, .int x1)] lv [] m (dc_sub_cons f0 (dc_sub_cons f1 (dc_sub_nil))) ?_) (Nat.le_succ N)
  unfold d_X9_stuck
  refine dg_s (pc' := 1) [.int x1] rfl (fun _ => rfl) rfl ?_
  refine dw_if (fun t => Φ t) ((Int32.toInt x1) < 0) [] 9 4 rfl (fun _ => rfl) (fun c0 => ?_) (fun c0 => ?_)
  · refine dw_g rfl ?_
    refine dg_s (pc' := 10) [.int (-1 : Int32)] rfl (fun _ => rfl) rfl ?_
    exact dw_r (some (.inl (some (.int (-1 : Int32)), m))) rfl (fun _ => rfl) (kR _ _)
  · refine dw_g rfl ?_
    refine dg_s (pc' := 5) [.int x1] rfl (fun _ => rfl) rfl ?_
    refine dg_s (pc' := 6) [.int (2 : Int32), .int x1] rfl (fun _ => rfl) rfl ?_
    refine dw_if (fun t => Φ t) ((Int32.toInt x1) ≤ 2) [] 11 9 rfl (fun _ => rfl) (fun c1 => ?_) (fun c1 => ?_)
    · refine dw_g rfl ?_
      refine dg_s (pc' := 12) [.ref x0] rfl (fun _ => rfl) rfl ?_
      refine dw_b (fun t => Φ t) (pc' := 15) (fun q1 => []) (fun q1 => q1) rfl (fun _ => rfl) (fun q1 => ?_)
      refine dw_g rfl ?_
      refine dg_s (pc' := 16) [.ref x0] rfl (fun _ => rfl) rfl ?_
      refine dg_s (pc' := 19) [.ref (x0 + 3)] rfl (fun _ => rfl) rfl ?_
      refine dg_s (pc' := 22) [.int (q1.1 (x0 + 3) 1)] rfl (fun _ => rfl) rfl ?_
      refine dw_if (fun t => Φ t) ((Int32.toInt (q1.1 (x0 + 3) 1)) = 0) [] 28 25 rfl (fun _ => rfl) (fun c2 => ?_) (fun c2 => ?_)
      · refine dw_g rfl ?_
        refine dg_s (pc' := 29) [.int x1] rfl (fun _ => rfl) rfl ?_
        refine dw_sw (fun t => Φ t) ((Int32.toInt x1)) 72 [(0, 56), (1, 64)] [] rfl (fun _ => rfl) ?_
        refine dw_ts (fun t => Φ t) (fun c3 => ?_) (fun c3 => ?_)
        · refine dw_g rfl ?_
          refine dg_s (pc' := 57) [.ref x0] rfl (fun _ => rfl) rfl ?_
          refine dg_s (pc' := 60) [.ref (x0 + 3)] rfl (fun _ => rfl) rfl ?_
          refine dw_b (fun t => Φ t) (pc' := 63) (fun q2 => [.int q2]) (fun q2 => q1) rfl (fun _ => rfl) (fun q2 => ?_)
          refine dw_g rfl ?_
          exact dw_r (some (.inl (some (.int q2), q1))) rfl (fun _ => rfl) (kR _ _)
        refine dw_ts (fun t => Φ t) (fun c4 => ?_) (fun c4 => ?_)
        · refine dw_g rfl ?_
          refine dg_s (pc' := 65) [.ref x0] rfl (fun _ => rfl) rfl ?_
          refine dg_s (pc' := 68) [.ref (x0 + 3)] rfl (fun _ => rfl) rfl ?_
          refine dw_b (fun t => Φ t) (pc' := 71) (fun q3 => [.int q3.1]) (fun q3 => q3.2) rfl (fun _ => rfl) (fun q3 => ?_)
          refine dw_g rfl ?_
          exact dw_r (some (.inl (some (.int q3.1), q3.2))) rfl (fun _ => rfl) (kR _ _)
        refine dw_t0 ?_
        refine dw_g rfl ?_
        refine dg_s (pc' := 73) [.ref x0] rfl (fun _ => rfl) rfl ?_
        refine dg_s (pc' := 76) [.ref (q1.2.2.1 x0 7)] rfl (fun _ => rfl) rfl ?_
        refine dg_s (pc' := 79) [.int (q1.1 (q1.2.2.1 x0 7) 1)] rfl (fun _ => rfl) rfl ?_
        refine dg_s (pc' := 80) [.ref x0, .int (q1.1 (q1.2.2.1 x0 7) 1)] rfl (fun _ => rfl) rfl ?_
        refine dg_s (pc' := 83) [.ref (x0 + 3), .int (q1.1 (q1.2.2.1 x0 7) 1)] rfl (fun _ => rfl) rfl ?_
        refine dg_s (pc' := 86) [.int (q1.1 (x0 + 3) 2), .int (q1.1 (q1.2.2.1 x0 7) 1)] rfl (fun _ => rfl) rfl ?_
        refine dg_s (pc' := 89) [.int (d_J6_bitCount_0f7a4 (q1.1 (x0 + 3) 2) q1), .int (q1.1 (q1.2.2.1 x0 7) 1)] rfl (fun _ => rfl) rfl ?_
        refine dg_s (pc' := 90) [.int ((q1.1 (q1.2.2.1 x0 7) 1) - (d_J6_bitCount_0f7a4 (q1.1 (x0 + 3) 2) q1))] rfl (fun _ => rfl) rfl ?_
        exact dw_r (some (.inl (some (.int ((q1.1 (q1.2.2.1 x0 7) 1) - (d_J6_bitCount_0f7a4 (q1.1 (x0 + 3) 2) q1))), q1))) rfl (fun _ => rfl) (kR _ _)
      · refine dw_g rfl ?_
        refine dg_s (pc' := 27) [.int (-2 : Int32)] rfl (fun _ => rfl) rfl ?_
        exact dw_r (some (.inl (some (.int (-2 : Int32)), q1))) rfl (fun _ => rfl) (kR _ _)
    · refine dw_g rfl ?_
      refine dg_s (pc' := 10) [.int (-1 : Int32)] rfl (fun _ => rfl) rfl ?_
      exact dw_r (some (.inl (some (.int (-1 : Int32)), m))) rfl (fun _ => rfl) (kR _ _)
noncomputable def H_X9_stuck : dc_H := fun As m k => match As with
  | [.ref x0, .int x1] => (d_X9_stuck x0 x1 m).bind (fun q => k (some (.int q.1)) q.2)
  | _ => dc_kz
theorem H_X9_stuck_ok {u : Nat} : dc_cok u 113 H_X9_stuck := fun M' hG N As m k P hz hP => by
  obtain rfl : ab_M_X9_stuck = M' := Option.some.inj hG
  unfold H_X9_stuck at hP
  split at hP
  · rename_i x0 x1
    exact dc_pv.imp (k_X9_stuck (Φ := fun (t : Option (Int32 × dc_M)) r m' => P (t.bind (fun q => k (some (.int q.1)) q.2)) → P (k r m')) x0 x1 m (fun _ _ h => h) rfl rfl) (fun r m' h => h hP)
  · exact absurd hP hz
noncomputable def C_X9_gatherSums : List (Nat × dc_H) := [(93, H_X8_gather)]
theorem CO_X9_gatherSums {u : Nat} : dc_CO u C_X9_gatherSums := dc_CO_cons H_X8_gather_ok (dc_CO_nil)
def S_X9_gatherSums : List (Nat × List Nat) := []
noncomputable def d_X9_gatherSums (x0 : Nat) (m : dc_M) : Option dc_M :=
  (if ¬ (Int32.toInt (m.1 x0 13)) = 0 then some (m) else ((d_X8_gather (x0 + 14) (m.1 (m.2.2.1 x0 7) 0) (x0 + 3) m).bind (fun q1 => some ((dc_wi q1 x0 13 (1 : Int32))))))
set_option maxHeartbeats 8000000 in
theorem k_X9_gatherSums {u : Nat} {N : Nat} {Φ : (Option dc_M) → Option Value → dc_M → Prop} (x0 : Nat) (m : dc_M) (kR : ∀  (m : dc_M), Φ (some (m)) (none) m)  {lv : ab_L} (f0 : ab_lk lv 0 = some (.ref x0)) : dc_pv u N ab_M_X9_gatherSums 0 lv [] m (Φ (d_X9_gatherSums x0 m)) := by
  refine dc_pv.mono (dc_ok (C := C_X9_gatherSums) (S := S_X9_gatherSums) CO_X9_gatherSums 400 0 [(0, .ref x0)] lv [] m (dc_sub_cons f0 (dc_sub_nil)) ?_) (Nat.le_succ N)
  unfold d_X9_gatherSums
  refine dg_s (pc' := 1) [.ref x0] rfl (fun _ => rfl) rfl ?_
  refine dg_s (pc' := 4) [.int (m.1 x0 13)] rfl (fun _ => rfl) rfl ?_
  refine dw_if (fun t => Φ t) (¬ (Int32.toInt (m.1 x0 13)) = 0) [] 30 7 rfl (fun _ => rfl) (fun c0 => ?_) (fun c0 => ?_)
  · refine dw_g rfl ?_
    exact dw_r (some (.inl (none, m))) rfl (fun _ => rfl) (kR _)
  · refine dw_g rfl ?_
    refine dg_s (pc' := 8) [.ref x0] rfl (fun _ => rfl) rfl ?_
    refine dg_s (pc' := 11) [.ref (x0 + 14)] rfl (fun _ => rfl) rfl ?_
    refine dg_s (pc' := 12) [.ref x0, .ref (x0 + 14)] rfl (fun _ => rfl) rfl ?_
    refine dg_s (pc' := 15) [.ref (m.2.2.1 x0 7), .ref (x0 + 14)] rfl (fun _ => rfl) rfl ?_
    refine dg_s (pc' := 18) [.int (m.1 (m.2.2.1 x0 7) 0), .ref (x0 + 14)] rfl (fun _ => rfl) rfl ?_
    refine dg_s (pc' := 19) [.ref x0, .int (m.1 (m.2.2.1 x0 7) 0), .ref (x0 + 14)] rfl (fun _ => rfl) rfl ?_
    refine dg_s (pc' := 22) [.ref (x0 + 3), .int (m.1 (m.2.2.1 x0 7) 0), .ref (x0 + 14)] rfl (fun _ => rfl) rfl ?_
    refine dw_b (fun t => Φ t) (pc' := 25) (fun q1 => []) (fun q1 => q1) rfl (fun _ => rfl) (fun q1 => ?_)
    refine dw_g rfl ?_
    refine dg_s (pc' := 26) [.ref x0] rfl (fun _ => rfl) rfl ?_
    refine dg_s (pc' := 27) [.int (1 : Int32), .ref x0] rfl (fun _ => rfl) rfl ?_
    refine dg_m (pc' := 30) (dc_wi q1 x0 13 (1 : Int32)) [] rfl (fun _ => rfl) rfl ?_
    exact dw_r (some (.inl (none, (dc_wi q1 x0 13 (1 : Int32))))) rfl (fun _ => rfl) (kR _)
noncomputable def H_X9_gatherSums : dc_H := fun As m k => match As with
  | [.ref x0] => (d_X9_gatherSums x0 m).bind (fun q => k (none) q)
  | _ => dc_kz
theorem H_X9_gatherSums_ok {u : Nat} : dc_cok u 137 H_X9_gatherSums := fun M' hG N As m k P hz hP => by
  obtain rfl : ab_M_X9_gatherSums = M' := Option.some.inj hG
  unfold H_X9_gatherSums at hP
  split at hP
  · rename_i x0
    exact dc_pv.imp (k_X9_gatherSums (Φ := fun (t : Option dc_M) r m' => P (t.bind (fun q => k (none) q)) → P (k r m')) x0 m (fun _ h => h) rfl) (fun r m' h => h hP)
  · exact absurd hP hz
