/-! ===== methods as functions (written by a program) ===== -/
def C_J7_fill_53178 : List (Nat × dc_H) := []
theorem CO_J7_fill_53178 {u : Nat} : dc_CO u C_J7_fill_53178 := dc_CO_nil
def S_J7_fill_53178 : List (Nat × List Nat) := [(5, [0, 1, 2, 3])]
noncomputable def d_J7_fill_53178_l5b (x0 : Nat) (x1 : Int32) (x3 : Int32) (x2 : Int32) (m : dc_M) : Option ((Int32 × dc_M) ⊕ dc_M) :=
  (if (Int32.toInt x3) ≤ (Int32.toInt x2) then some (Sum.inr (m)) else some (Sum.inl ((x2 + (1 : Int32)), (dc_wi m x0 (Int32.toNatClampNeg x2) x1))))
noncomputable def d_J7_fill_53178_l5s (x0 : Nat) (x1 : Int32) (x3 : Int32) : (Int32 × dc_M) → Option ((Int32 × dc_M) ⊕ dc_M) := fun s => d_J7_fill_53178_l5b x0 x1 x3 s.1 s.2
noncomputable def d_J7_fill_53178_l5 (x0 : Nat) (x1 : Int32) (x3 : Int32) (x2 : Int32) (m : dc_M) : Option dc_M := dc_lp (d_J7_fill_53178_l5s x0 x1 x3) (x2, m)
set_option maxHeartbeats 8000000 in
theorem k_J7_fill_53178_l5 {u : Nat} {Φ : (Option dc_M) → Option Value → dc_M → Prop} (x0 : Nat) (x1 : Int32) (x3 : Int32) (kR : ∀  (m : dc_M), Φ (some (m)) (none) m) : ∀ (N : Nat), ∀ (x2 : Int32) (m : dc_M) (lv : ab_L), ab_lk lv 0 = some (.ref x0) → ab_lk lv 1 = some (.int x1) → ab_lk lv 2 = some (.int x2) → ab_lk lv 3 = some (.int x3) → dc_pv u N ab_M_J7_fill_53178 5 lv [] m (Φ (d_J7_fill_53178_l5 x0 x1 x3 x2 m)) := by
  intro N
  induction N with
  | zero => intros; exact dc_pv_zero
  | succ N ih =>
    intro x2 m lv f0 f1 f2 f3
    refine dc_ok (C := C_J7_fill_53178) (S := S_J7_fill_53178) CO_J7_fill_53178 400 5 [(0, .ref x0), (1, .int x1), (2, .int x2), (3, .int x3)] lv [] m (dc_sub_cons f0 (dc_sub_cons f1 (dc_sub_cons f2 (dc_sub_cons f3 (dc_sub_nil))))) ?_
    unfold d_J7_fill_53178_l5
    rw [dc_lp_eq]
    show (fun t x => dc_lf u N ab_M_J7_fill_53178 (Φ (Option.bind t (dc_bk (d_J7_fill_53178_l5s x0 x1 x3)))) x) (d_J7_fill_53178_l5b x0 x1 x3 x2 m) _
    dsimp only
    unfold d_J7_fill_53178_l5b
    refine dg_s (pc' := 6) [.int x2] rfl (fun _ => rfl) rfl ?_
    refine dg_s (pc' := 7) [.int x3, .int x2] rfl (fun _ => rfl) rfl ?_
    refine dw_if (fun t => Φ (Option.bind t (dc_bk (d_J7_fill_53178_l5s x0 x1 x3)))) ((Int32.toInt x3) ≤ (Int32.toInt x2)) [] 20 10 rfl (fun _ => rfl) (fun c0 => ?_) (fun c0 => ?_)
    · refine dw_g rfl ?_
      exact dw_r (some (.inl (none, m))) rfl (fun _ => rfl) (kR _)
    · refine dw_g rfl ?_
      refine dg_s (pc' := 11) [.ref x0] rfl (fun _ => rfl) rfl ?_
      refine dg_s (pc' := 12) [.int x2, .ref x0] rfl (fun _ => rfl) rfl ?_
      refine dg_s (pc' := 13) [.int x1, .int x2, .ref x0] rfl (fun _ => rfl) rfl ?_
      refine dg_m (pc' := 14) (dc_wi m x0 (Int32.toNatClampNeg x2) x1) [] rfl (fun _ => rfl) rfl ?_
      refine dg_L (pc' := 17) [(2, .int (x2 + (1 : Int32))), (0, .ref x0), (1, .int x1), (3, .int x3)] [] rfl (fun _ => rfl) rfl ?_
      refine dw_s (pc' := 5) [] rfl (fun _ => rfl) ?_
      exact dw_j rfl (fun lv1 hv => ih (x2 + (1 : Int32)) (dc_wi m x0 (Int32.toNatClampNeg x2) x1) lv1 (hv.1 _ rfl) (hv.2.1 _ rfl) (hv.2.2.1 _ rfl) (hv.2.2.2.1 _ rfl))
noncomputable def d_J7_fill_53178 (x0 : Nat) (x1 : Int32) (m : dc_M) : Option dc_M :=
  (d_J7_fill_53178_l5 x0 x1 (Int32.ofNat (m.2.2.2 x0).2) (0 : Int32) m)
set_option maxHeartbeats 8000000 in
theorem k_J7_fill_53178 {u : Nat} {N : Nat} {Φ : (Option dc_M) → Option Value → dc_M → Prop} (x0 : Nat) (x1 : Int32) (m : dc_M) (kR : ∀  (m : dc_M), Φ (some (m)) (none) m)  {lv : ab_L} (f0 : ab_lk lv 0 = some (.ref x0)) (f1 : ab_lk lv 1 = some (.int x1)) : dc_pv u N ab_M_J7_fill_53178 0 lv [] m (Φ (d_J7_fill_53178 x0 x1 m)) := by
  refine dc_pv.mono (dc_ok (C := C_J7_fill_53178) (S := S_J7_fill_53178) CO_J7_fill_53178 400 0 [(0, .ref x0), (1, .int x1)] lv [] m (dc_sub_cons f0 (dc_sub_cons f1 (dc_sub_nil))) ?_) (Nat.le_succ N)
  unfold d_J7_fill_53178
  refine dg_s (pc' := 1) [.int (0 : Int32)] rfl (fun _ => rfl) rfl ?_
  refine dg_L (pc' := 2) [(2, .int (0 : Int32)), (0, .ref x0), (1, .int x1)] [] rfl (fun _ => rfl) rfl ?_
  refine dg_s (pc' := 3) [.ref x0] rfl (fun _ => rfl) rfl ?_
  refine dg_s (pc' := 4) [.int (Int32.ofNat (m.2.2.2 x0).2)] rfl (fun _ => rfl) rfl ?_
  refine dw_L (pc' := 5) [(3, .int (Int32.ofNat (m.2.2.2 x0).2)), (2, .int (0 : Int32)), (0, .ref x0), (1, .int x1)] [] rfl (fun _ => rfl) ?_
  exact dw_j rfl (fun lv1 hv => k_J7_fill_53178_l5 (Φ := (fun t => Φ t)) x0 x1 (Int32.ofNat (m.2.2.2 x0).2) (fun _b => kR _b) N  (0 : Int32) m lv1 (hv.1 _ rfl) (hv.2.1 _ rfl) (hv.2.2.1 _ rfl) (hv.2.2.2.1 _ rfl))
noncomputable def H_J7_fill_53178 : dc_H := fun As m k => match As with
  | [.ref x0, .int x1] => (d_J7_fill_53178 x0 x1 m).bind (fun q => k (none) q)
  | _ => dc_kz
theorem H_J7_fill_53178_ok {u : Nat} : dc_cok u 238 H_J7_fill_53178 := fun M' hG N As m k P hz hP => by
  obtain rfl : ab_M_J7_fill_53178 = M' := Option.some.inj hG
  unfold H_J7_fill_53178 at hP
  split at hP
  · rename_i x0 x1
    exact dc_pv.imp (k_J7_fill_53178 (Φ := fun (t : Option dc_M) r m' => P (t.bind (fun q => k (none) q)) → P (k r m')) x0 x1 m (fun _ h => h) rfl rfl) (fun r m' h => h hP)
  · exact absurd hP hz
def C_X0_addQuarrel : List (Nat × dc_H) := []
theorem CO_X0_addQuarrel {u : Nat} : dc_CO u C_X0_addQuarrel := dc_CO_nil
def S_X0_addQuarrel : List (Nat × List Nat) := []
def d_X0_addQuarrel (x0 : Nat) (x1 : Int32) (x2 : Int32) (m : dc_M) : dc_M :=
  (if (Int32.toInt (m.1 x0 1)) = 0 then (dc_wi (dc_wi (dc_wi m x0 2 x1) x0 3 x2) x0 1 (((dc_wi (dc_wi m x0 2 x1) x0 3 x2).1 x0 1) + (1 : Int32))) else (if (Int32.toInt (m.1 x0 2)) ≤ (Int32.toInt x1) then (dc_wi m x0 1 ((m.1 x0 1) + (1 : Int32))) else (dc_wi (dc_wi (dc_wi m x0 2 x1) x0 3 x2) x0 1 (((dc_wi (dc_wi m x0 2 x1) x0 3 x2).1 x0 1) + (1 : Int32)))))
set_option maxHeartbeats 8000000 in
theorem k_X0_addQuarrel {u : Nat} {N : Nat} {Φ : dc_M → Option Value → dc_M → Prop} (x0 : Nat) (x1 : Int32) (x2 : Int32) (m : dc_M) (kR : ∀  (m : dc_M), Φ (m) (none) m)  {lv : ab_L} (f0 : ab_lk lv 0 = some (.ref x0)) (f1 : ab_lk lv 1 = some (.int x1)) (f2 : ab_lk lv 2 = some (.int x2)) : dc_pv u N ab_M_X0_addQuarrel 0 lv [] m (Φ (d_X0_addQuarrel x0 x1 x2 m)) := by
  refine dc_pv.mono (dc_ok (C := C_X0_addQuarrel) (S := S_X0_addQuarrel) CO_X0_addQuarrel 400 0 [(0, .ref x0), (1, .int x1), (2, .int x2)] lv [] m (dc_sub_cons f0 (dc_sub_cons f1 (dc_sub_cons f2 (dc_sub_nil)))) ?_) (Nat.le_succ N)
  unfold d_X0_addQuarrel
  refine dg_s (pc' := 1) [.ref x0] rfl (fun _ => rfl) rfl ?_
  refine dg_s (pc' := 4) [.int (m.1 x0 1)] rfl (fun _ => rfl) rfl ?_
  refine dw_if (fun t => Φ t) ((Int32.toInt (m.1 x0 1)) = 0) [] 15 7 rfl (fun _ => rfl) (fun c0 => ?_) (fun c0 => ?_)
  · refine dw_g rfl ?_
    refine dg_s (pc' := 16) [.ref x0] rfl (fun _ => rfl) rfl ?_
    refine dg_s (pc' := 17) [.int x1, .ref x0] rfl (fun _ => rfl) rfl ?_
    refine dg_m (pc' := 20) (dc_wi m x0 2 x1) [] rfl (fun _ => rfl) rfl ?_
    refine dg_s (pc' := 21) [.ref x0] rfl (fun _ => rfl) rfl ?_
    refine dg_s (pc' := 22) [.int x2, .ref x0] rfl (fun _ => rfl) rfl ?_
    refine dg_m (pc' := 25) (dc_wi (dc_wi m x0 2 x1) x0 3 x2) [] rfl (fun _ => rfl) rfl ?_
    refine dg_s (pc' := 26) [.ref x0] rfl (fun _ => rfl) rfl ?_
    refine dg_s (pc' := 27) [.ref x0, .ref x0] rfl (fun _ => rfl) rfl ?_
    refine dg_s (pc' := 30) [.int ((dc_wi (dc_wi m x0 2 x1) x0 3 x2).1 x0 1), .ref x0] rfl (fun _ => rfl) rfl ?_
    refine dg_s (pc' := 31) [.int (1 : Int32), .int ((dc_wi (dc_wi m x0 2 x1) x0 3 x2).1 x0 1), .ref x0] rfl (fun _ => rfl) rfl ?_
    refine dg_s (pc' := 32) [.int (((dc_wi (dc_wi m x0 2 x1) x0 3 x2).1 x0 1) + (1 : Int32)), .ref x0] rfl (fun _ => rfl) rfl ?_
    refine dg_m (pc' := 35) (dc_wi (dc_wi (dc_wi m x0 2 x1) x0 3 x2) x0 1 (((dc_wi (dc_wi m x0 2 x1) x0 3 x2).1 x0 1) + (1 : Int32))) [] rfl (fun _ => rfl) rfl ?_
    exact dw_r (some (.inl (none, (dc_wi (dc_wi (dc_wi m x0 2 x1) x0 3 x2) x0 1 (((dc_wi (dc_wi m x0 2 x1) x0 3 x2).1 x0 1) + (1 : Int32)))))) rfl (fun _ => rfl) (kR _)
  · refine dw_g rfl ?_
    refine dg_s (pc' := 8) [.int x1] rfl (fun _ => rfl) rfl ?_
    refine dg_s (pc' := 9) [.ref x0, .int x1] rfl (fun _ => rfl) rfl ?_
    refine dg_s (pc' := 12) [.int (m.1 x0 2), .int x1] rfl (fun _ => rfl) rfl ?_
    refine dw_if (fun t => Φ t) ((Int32.toInt (m.1 x0 2)) ≤ (Int32.toInt x1)) [] 25 15 rfl (fun _ => rfl) (fun c1 => ?_) (fun c1 => ?_)
    · refine dw_g rfl ?_
      refine dg_s (pc' := 26) [.ref x0] rfl (fun _ => rfl) rfl ?_
      refine dg_s (pc' := 27) [.ref x0, .ref x0] rfl (fun _ => rfl) rfl ?_
      refine dg_s (pc' := 30) [.int (m.1 x0 1), .ref x0] rfl (fun _ => rfl) rfl ?_
      refine dg_s (pc' := 31) [.int (1 : Int32), .int (m.1 x0 1), .ref x0] rfl (fun _ => rfl) rfl ?_
      refine dg_s (pc' := 32) [.int ((m.1 x0 1) + (1 : Int32)), .ref x0] rfl (fun _ => rfl) rfl ?_
      refine dg_m (pc' := 35) (dc_wi m x0 1 ((m.1 x0 1) + (1 : Int32))) [] rfl (fun _ => rfl) rfl ?_
      exact dw_r (some (.inl (none, (dc_wi m x0 1 ((m.1 x0 1) + (1 : Int32)))))) rfl (fun _ => rfl) (kR _)
    · refine dw_g rfl ?_
      refine dg_s (pc' := 16) [.ref x0] rfl (fun _ => rfl) rfl ?_
      refine dg_s (pc' := 17) [.int x1, .ref x0] rfl (fun _ => rfl) rfl ?_
      refine dg_m (pc' := 20) (dc_wi m x0 2 x1) [] rfl (fun _ => rfl) rfl ?_
      refine dg_s (pc' := 21) [.ref x0] rfl (fun _ => rfl) rfl ?_
      refine dg_s (pc' := 22) [.int x2, .ref x0] rfl (fun _ => rfl) rfl ?_
      refine dg_m (pc' := 25) (dc_wi (dc_wi m x0 2 x1) x0 3 x2) [] rfl (fun _ => rfl) rfl ?_
      refine dg_s (pc' := 26) [.ref x0] rfl (fun _ => rfl) rfl ?_
      refine dg_s (pc' := 27) [.ref x0, .ref x0] rfl (fun _ => rfl) rfl ?_
      refine dg_s (pc' := 30) [.int ((dc_wi (dc_wi m x0 2 x1) x0 3 x2).1 x0 1), .ref x0] rfl (fun _ => rfl) rfl ?_
      refine dg_s (pc' := 31) [.int (1 : Int32), .int ((dc_wi (dc_wi m x0 2 x1) x0 3 x2).1 x0 1), .ref x0] rfl (fun _ => rfl) rfl ?_
      refine dg_s (pc' := 32) [.int (((dc_wi (dc_wi m x0 2 x1) x0 3 x2).1 x0 1) + (1 : Int32)), .ref x0] rfl (fun _ => rfl) rfl ?_
      refine dg_m (pc' := 35) (dc_wi (dc_wi (dc_wi m x0 2 x1) x0 3 x2) x0 1 (((dc_wi (dc_wi m x0 2 x1) x0 3 x2).1 x0 1) + (1 : Int32))) [] rfl (fun _ => rfl) rfl ?_
      exact dw_r (some (.inl (none, (dc_wi (dc_wi (dc_wi m x0 2 x1) x0 3 x2) x0 1 (((dc_wi (dc_wi m x0 2 x1) x0 3 x2).1 x0 1) + (1 : Int32)))))) rfl (fun _ => rfl) (kR _)
def H_X0_addQuarrel : dc_H := fun As m k => match As with
  | [.ref x0, .int x1, .int x2] => dc_let (d_X0_addQuarrel x0 x1 x2 m) (fun q => k (none) q)
  | _ => dc_kz
theorem H_X0_addQuarrel_ok {u : Nat} : dc_cok u 3 H_X0_addQuarrel := fun M' hG N As m k P hz hP => by
  obtain rfl : ab_M_X0_addQuarrel = M' := Option.some.inj hG
  unfold H_X0_addQuarrel at hP
  split at hP
  · rename_i x0 x1 x2
    exact dc_pv.imp (k_X0_addQuarrel (Φ := fun (t : dc_M) r m' => P (dc_let t (fun q => k (none) q)) → P (k r m')) x0 x1 x2 m (fun _ h => h) rfl rfl rfl) (fun r m' h => h hP)
  · exact absurd hP hz
noncomputable def C_X0_findQuarrels : List (Nat × dc_H) := [(238, H_J7_fill_53178), (3, H_X0_addQuarrel)]
theorem CO_X0_findQuarrels {u : Nat} : dc_CO u C_X0_findQuarrels := dc_CO_cons H_J7_fill_53178_ok (dc_CO_cons H_X0_addQuarrel_ok (dc_CO_nil))
def S_X0_findQuarrels : List (Nat × List Nat) := [(33, [0, 1, 2, 3]), (64, [0, 1, 2, 3, 4, 5, 6]), (128, [0, 1, 2, 3, 4])]
noncomputable def d_X0_findQuarrels_b128 (x0 : Nat) (x1 : Int32) (x2 : Nat) (x3 : Int32) (x4 : Int32) (m : dc_M) : Option ((Int32 × dc_M) ⊕ dc_M) :=
  some (Sum.inl ((x3 + (1 : Int32)), (dc_wi (dc_wi m (x0 + 2) (Int32.toNatClampNeg x3) (m.1 (x0 + 1) (Int32.toNatClampNeg x4))) (x0 + 1) (Int32.toNatClampNeg x4) x3)))
set_option maxHeartbeats 8000000 in
theorem k_X0_findQuarrels_b128 {u : Nat} {N : Nat} {Φ : (Option ((Int32 × dc_M) ⊕ dc_M)) → Option Value → dc_M → Prop} (x0 : Nat) (x1 : Int32) (x2 : Nat) (x3 : Int32) (x4 : Int32) (m : dc_M) (kR : ∀  (m : dc_M), Φ (some (Sum.inr (m))) (none) m) (k33 : ∀ (x3 : Int32) (m : dc_M) (lv : ab_L), ab_lk lv 0 = some (.ref x0) → ab_lk lv 1 = some (.int x1) → ab_lk lv 2 = some (.ref x2) → ab_lk lv 3 = some (.int x3) →  dc_pv u N ab_M_X0_findQuarrels 33 lv [] m (Φ (some (Sum.inl (x3, m))))) {lv : ab_L} (f0 : ab_lk lv 0 = some (.ref x0)) (f1 : ab_lk lv 1 = some (.int x1)) (f2 : ab_lk lv 2 = some (.ref x2)) (f3 : ab_lk lv 3 = some (.int x3)) (f4 : ab_lk lv 4 = some (.int x4)) : dc_pv u N ab_M_X0_findQuarrels 128 lv [] m (Φ (d_X0_findQuarrels_b128 x0 x1 x2 x3 x4 m)) := by
  refine dc_pv.mono (dc_ok (C := C_X0_findQuarrels) (S := S_X0_findQuarrels) CO_X0_findQuarrels 400 128 [(0, .ref x0), (1, .int x1), (2, .ref x2), (3, .int x3), (4, .int x4)] lv [] m (dc_sub_cons f0 (dc_sub_cons f1 (dc_sub_cons f2 (dc_sub_cons f3 (dc_sub_cons f4 (dc_sub_nil)))))) ?_) (Nat.le_succ N)
  unfold d_X0_findQuarrels_b128
  refine dg_s (pc' := 129) [.ref x0] rfl (fun _ => rfl) rfl ?_
  refine dg_s (pc' := 132) [.ref (x0 + 2)] rfl (fun _ => rfl) rfl ?_
  refine dg_s (pc' := 133) [.int x3, .ref (x0 + 2)] rfl (fun _ => rfl) rfl ?_
  refine dg_s (pc' := 134) [.ref x0, .int x3, .ref (x0 + 2)] rfl (fun _ => rfl) rfl ?_
  refine dg_s (pc' := 137) [.ref (x0 + 1), .int x3, .ref (x0 + 2)] rfl (fun _ => rfl) rfl ?_
  refine dg_s (pc' := 139) [.int x4, .ref (x0 + 1), .int x3, .ref (x0 + 2)] rfl (fun _ => rfl) rfl ?_
  refine dg_s (pc' := 140) [.int (m.1 (x0 + 1) (Int32.toNatClampNeg x4)), .int x3, .ref (x0 + 2)] rfl (fun _ => rfl) rfl ?_
  refine dg_m (pc' := 141) (dc_wi m (x0 + 2) (Int32.toNatClampNeg x3) (m.1 (x0 + 1) (Int32.toNatClampNeg x4))) [] rfl (fun _ => rfl) rfl ?_
  refine dg_s (pc' := 142) [.ref x0] rfl (fun _ => rfl) rfl ?_
  refine dg_s (pc' := 145) [.ref (x0 + 1)] rfl (fun _ => rfl) rfl ?_
  refine dg_s (pc' := 147) [.int x4, .ref (x0 + 1)] rfl (fun _ => rfl) rfl ?_
  refine dg_s (pc' := 148) [.int x3, .int x4, .ref (x0 + 1)] rfl (fun _ => rfl) rfl ?_
  refine dg_m (pc' := 149) (dc_wi (dc_wi m (x0 + 2) (Int32.toNatClampNeg x3) (m.1 (x0 + 1) (Int32.toNatClampNeg x4))) (x0 + 1) (Int32.toNatClampNeg x4) x3) [] rfl (fun _ => rfl) rfl ?_
  refine dg_L (pc' := 152) [(3, .int (x3 + (1 : Int32))), (0, .ref x0), (1, .int x1), (2, .ref x2), (4, .int x4)] [] rfl (fun _ => rfl) rfl ?_
  refine dw_s (pc' := 33) [] rfl (fun _ => rfl) ?_
  exact dw_j rfl (fun lv1 hv => k33 (x3 + (1 : Int32)) (dc_wi (dc_wi m (x0 + 2) (Int32.toNatClampNeg x3) (m.1 (x0 + 1) (Int32.toNatClampNeg x4))) (x0 + 1) (Int32.toNatClampNeg x4) x3) lv1 (hv.1 _ rfl) (hv.2.1 _ rfl) (hv.2.2.1 _ rfl) (hv.2.2.2.1 _ rfl))
noncomputable def d_X0_findQuarrels_l64b (x0 : Nat) (x1 : Int32) (x2 : Nat) (x3 : Int32) (x4 : Int32) (x5 : Int32) (x6 : Int32) (m : dc_M) : Option ((Int32 × Int32 × dc_M) ⊕ ((Int32 × dc_M) ⊕ dc_M)) :=
  (if 200 ≤ (Int32.toInt x6) then ((d_X0_findQuarrels_b128 x0 x1 x2 x3 x4 m).map (fun z => Sum.inr (z))) else (if (Int32.toInt x5) < 0 then ((d_X0_findQuarrels_b128 x0 x1 x2 x3 x4 m).map (fun z => Sum.inr (z))) else (if (Int32.toInt ((((dc_wi m x0 0 ((m.1 x0 0) + (1 : Int32))).1 (x2 + 4) (Int32.toNatClampNeg x3)) ^^^ ((dc_wi m x0 0 ((m.1 x0 0) + (1 : Int32))).1 (x2 + 4) (Int32.toNatClampNeg x5))) &&& x1)) = 0 then some (Sum.inl (((dc_wi m x0 0 ((m.1 x0 0) + (1 : Int32))).1 (x0 + 2) (Int32.toNatClampNeg x5)), (x6 + (1 : Int32)), (dc_wi m x0 0 ((m.1 x0 0) + (1 : Int32))))) else (dc_let (d_X0_addQuarrel x0 x5 x3 (dc_wi m x0 0 ((m.1 x0 0) + (1 : Int32)))) (fun q1 => some (Sum.inl ((q1.1 (x0 + 2) (Int32.toNatClampNeg x5)), (x6 + (1 : Int32)), q1)))))))
noncomputable def d_X0_findQuarrels_l64s (x0 : Nat) (x1 : Int32) (x2 : Nat) (x3 : Int32) (x4 : Int32) : (Int32 × Int32 × dc_M) → Option ((Int32 × Int32 × dc_M) ⊕ ((Int32 × dc_M) ⊕ dc_M)) := fun s => d_X0_findQuarrels_l64b x0 x1 x2 x3 x4 s.1 s.2.1 s.2.2
noncomputable def d_X0_findQuarrels_l64 (x0 : Nat) (x1 : Int32) (x2 : Nat) (x3 : Int32) (x4 : Int32) (x5 : Int32) (x6 : Int32) (m : dc_M) : Option ((Int32 × dc_M) ⊕ dc_M) := dc_lp (d_X0_findQuarrels_l64s x0 x1 x2 x3 x4) (x5, x6, m)
set_option maxHeartbeats 8000000 in
theorem k_X0_findQuarrels_l64 {u : Nat} {Φ : (Option ((Int32 × dc_M) ⊕ dc_M)) → Option Value → dc_M → Prop} (x0 : Nat) (x1 : Int32) (x2 : Nat) (x3 : Int32) (x4 : Int32) (kR : ∀  (m : dc_M), Φ (some (Sum.inr (m))) (none) m) : ∀ (N : Nat), (∀ (x3 : Int32) (m : dc_M) (lv : ab_L), ab_lk lv 0 = some (.ref x0) → ab_lk lv 1 = some (.int x1) → ab_lk lv 2 = some (.ref x2) → ab_lk lv 3 = some (.int x3) →  dc_pv u N ab_M_X0_findQuarrels 33 lv [] m (Φ (some (Sum.inl (x3, m))))) → ∀ (x5 : Int32) (x6 : Int32) (m : dc_M) (lv : ab_L), ab_lk lv 0 = some (.ref x0) → ab_lk lv 1 = some (.int x1) → ab_lk lv 2 = some (.ref x2) → ab_lk lv 3 = some (.int x3) → ab_lk lv 4 = some (.int x4) → ab_lk lv 5 = some (.int x5) → ab_lk lv 6 = some (.int x6) → dc_pv u N ab_M_X0_findQuarrels 64 lv [] m (Φ (d_X0_findQuarrels_l64 x0 x1 x2 x3 x4 x5 x6 m)) := by
  intro N
  induction N with
  | zero => intros; exact dc_pv_zero
  | succ N ih =>
    intro k33 x5 x6 m lv f0 f1 f2 f3 f4 f5 f6
    have k33 := fun a0 a1 a2 a3 a4 a5 a6 => (k33 a0 a1 a2 a3 a4 a5 a6).mono (Nat.le_succ N)
    have ih := ih k33
    refine dc_ok (C := C_X0_findQuarrels) (S := S_X0_findQuarrels) CO_X0_findQuarrels 400 64 [(0, .ref x0), (1, .int x1), (2, .ref x2), (3, .int x3), (4, .int x4), (5, .int x5), (6, .int x6)] lv [] m (dc_sub_cons f0 (dc_sub_cons f1 (dc_sub_cons f2 (dc_sub_cons f3 (dc_sub_cons f4 (dc_sub_cons f5 (dc_sub_cons f6 (dc_sub_nil)))))))) ?_
    unfold d_X0_findQuarrels_l64
    rw [dc_lp_eq]
    show (fun t x => dc_lf u N ab_M_X0_findQuarrels (Φ (Option.bind t (dc_bk (d_X0_findQuarrels_l64s x0 x1 x2 x3 x4)))) x) (d_X0_findQuarrels_l64b x0 x1 x2 x3 x4 x5 x6 m) _
    dsimp only
    unfold d_X0_findQuarrels_l64b
    refine dg_s (pc' := 66) [.int x6] rfl (fun _ => rfl) rfl ?_
    refine dg_s (pc' := 69) [.int (200 : Int32), .int x6] rfl (fun _ => rfl) rfl ?_
    refine dw_if (fun t => Φ (Option.bind t (dc_bk (d_X0_findQuarrels_l64s x0 x1 x2 x3 x4)))) (200 ≤ (Int32.toInt x6)) [] 128 72 rfl (fun _ => rfl) (fun c0 => ?_) (fun c0 => ?_)
    · exact dw_j rfl (fun lv1 hv => k_X0_findQuarrels_b128 (Φ := (fun t => Φ (Option.bind (t.map (fun z => Sum.inr (z))) (dc_bk (d_X0_findQuarrels_l64s x0 x1 x2 x3 x4))))) x0 x1 x2 x3 x4 m (fun _b => kR _b) k33 (hv.1 _ rfl) (hv.2.1 _ rfl) (hv.2.2.1 _ rfl) (hv.2.2.2.1 _ rfl) (hv.2.2.2.2.1 _ rfl))
    · refine dw_g rfl ?_
      refine dg_s (pc' := 74) [.int x5] rfl (fun _ => rfl) rfl ?_
      refine dw_if (fun t => Φ (Option.bind t (dc_bk (d_X0_findQuarrels_l64s x0 x1 x2 x3 x4)))) ((Int32.toInt x5) < 0) [] 128 77 rfl (fun _ => rfl) (fun c1 => ?_) (fun c1 => ?_)
      · exact dw_j rfl (fun lv1 hv => k_X0_findQuarrels_b128 (Φ := (fun t => Φ (Option.bind (t.map (fun z => Sum.inr (z))) (dc_bk (d_X0_findQuarrels_l64s x0 x1 x2 x3 x4))))) x0 x1 x2 x3 x4 m (fun _b => kR _b) k33 (hv.1 _ rfl) (hv.2.1 _ rfl) (hv.2.2.1 _ rfl) (hv.2.2.2.1 _ rfl) (hv.2.2.2.2.1 _ rfl))
      · refine dw_g rfl ?_
        refine dg_s (pc' := 78) [.ref x0] rfl (fun _ => rfl) rfl ?_
        refine dg_s (pc' := 79) [.ref x0, .ref x0] rfl (fun _ => rfl) rfl ?_
        refine dg_s (pc' := 82) [.int (m.1 x0 0), .ref x0] rfl (fun _ => rfl) rfl ?_
        refine dg_s (pc' := 83) [.int (1 : Int32), .int (m.1 x0 0), .ref x0] rfl (fun _ => rfl) rfl ?_
        refine dg_s (pc' := 84) [.int ((m.1 x0 0) + (1 : Int32)), .ref x0] rfl (fun _ => rfl) rfl ?_
        refine dg_m (pc' := 87) (dc_wi m x0 0 ((m.1 x0 0) + (1 : Int32))) [] rfl (fun _ => rfl) rfl ?_
        refine dg_s (pc' := 88) [.ref x2] rfl (fun _ => rfl) rfl ?_
        refine dg_s (pc' := 91) [.ref (x2 + 4)] rfl (fun _ => rfl) rfl ?_
        refine dg_s (pc' := 92) [.int x3, .ref (x2 + 4)] rfl (fun _ => rfl) rfl ?_
        refine dg_s (pc' := 93) [.int ((dc_wi m x0 0 ((m.1 x0 0) + (1 : Int32))).1 (x2 + 4) (Int32.toNatClampNeg x3))] rfl (fun _ => rfl) rfl ?_
        refine dg_s (pc' := 94) [.ref x2, .int ((dc_wi m x0 0 ((m.1 x0 0) + (1 : Int32))).1 (x2 + 4) (Int32.toNatClampNeg x3))] rfl (fun _ => rfl) rfl ?_
        refine dg_s (pc' := 97) [.ref (x2 + 4), .int ((dc_wi m x0 0 ((m.1 x0 0) + (1 : Int32))).1 (x2 + 4) (Int32.toNatClampNeg x3))] rfl (fun _ => rfl) rfl ?_
        refine dg_s (pc' := 99) [.int x5, .ref (x2 + 4), .int ((dc_wi m x0 0 ((m.1 x0 0) + (1 : Int32))).1 (x2 + 4) (Int32.toNatClampNeg x3))] rfl (fun _ => rfl) rfl ?_
        refine dg_s (pc' := 100) [.int ((dc_wi m x0 0 ((m.1 x0 0) + (1 : Int32))).1 (x2 + 4) (Int32.toNatClampNeg x5)), .int ((dc_wi m x0 0 ((m.1 x0 0) + (1 : Int32))).1 (x2 + 4) (Int32.toNatClampNeg x3))] rfl (fun _ => rfl) rfl ?_
        refine dg_s (pc' := 101) [.int (((dc_wi m x0 0 ((m.1 x0 0) + (1 : Int32))).1 (x2 + 4) (Int32.toNatClampNeg x3)) ^^^ ((dc_wi m x0 0 ((m.1 x0 0) + (1 : Int32))).1 (x2 + 4) (Int32.toNatClampNeg x5)))] rfl (fun _ => rfl) rfl ?_
        refine dg_s (pc' := 102) [.int x1, .int (((dc_wi m x0 0 ((m.1 x0 0) + (1 : Int32))).1 (x2 + 4) (Int32.toNatClampNeg x3)) ^^^ ((dc_wi m x0 0 ((m.1 x0 0) + (1 : Int32))).1 (x2 + 4) (Int32.toNatClampNeg x5)))] rfl (fun _ => rfl) rfl ?_
        refine dg_s (pc' := 103) [.int ((((dc_wi m x0 0 ((m.1 x0 0) + (1 : Int32))).1 (x2 + 4) (Int32.toNatClampNeg x3)) ^^^ ((dc_wi m x0 0 ((m.1 x0 0) + (1 : Int32))).1 (x2 + 4) (Int32.toNatClampNeg x5))) &&& x1)] rfl (fun _ => rfl) rfl ?_
        refine dw_if (fun t => Φ (Option.bind t (dc_bk (d_X0_findQuarrels_l64s x0 x1 x2 x3 x4)))) ((Int32.toInt ((((dc_wi m x0 0 ((m.1 x0 0) + (1 : Int32))).1 (x2 + 4) (Int32.toNatClampNeg x3)) ^^^ ((dc_wi m x0 0 ((m.1 x0 0) + (1 : Int32))).1 (x2 + 4) (Int32.toNatClampNeg x5))) &&& x1)) = 0) [] 113 106 rfl (fun _ => rfl) (fun c2 => ?_) (fun c2 => ?_)
        · refine dw_g rfl ?_
          refine dg_s (pc' := 114) [.ref x0] rfl (fun _ => rfl) rfl ?_
          refine dg_s (pc' := 117) [.ref (x0 + 2)] rfl (fun _ => rfl) rfl ?_
          refine dg_s (pc' := 119) [.int x5, .ref (x0 + 2)] rfl (fun _ => rfl) rfl ?_
          refine dg_s (pc' := 120) [.int ((dc_wi m x0 0 ((m.1 x0 0) + (1 : Int32))).1 (x0 + 2) (Int32.toNatClampNeg x5))] rfl (fun _ => rfl) rfl ?_
          refine dg_L (pc' := 122) [(5, .int ((dc_wi m x0 0 ((m.1 x0 0) + (1 : Int32))).1 (x0 + 2) (Int32.toNatClampNeg x5))), (0, .ref x0), (1, .int x1), (2, .ref x2), (3, .int x3), (4, .int x4), (6, .int x6)] [] rfl (fun _ => rfl) rfl ?_
          refine dg_L (pc' := 125) [(6, .int (x6 + (1 : Int32))), (5, .int ((dc_wi m x0 0 ((m.1 x0 0) + (1 : Int32))).1 (x0 + 2) (Int32.toNatClampNeg x5))), (0, .ref x0), (1, .int x1), (2, .ref x2), (3, .int x3), (4, .int x4)] [] rfl (fun _ => rfl) rfl ?_
          refine dw_s (pc' := 64) [] rfl (fun _ => rfl) ?_
          exact dw_j rfl (fun lv1 hv => ih ((dc_wi m x0 0 ((m.1 x0 0) + (1 : Int32))).1 (x0 + 2) (Int32.toNatClampNeg x5)) (x6 + (1 : Int32)) (dc_wi m x0 0 ((m.1 x0 0) + (1 : Int32))) lv1 (hv.1 _ rfl) (hv.2.1 _ rfl) (hv.2.2.1 _ rfl) (hv.2.2.2.1 _ rfl) (hv.2.2.2.2.1 _ rfl) (hv.2.2.2.2.2.1 _ rfl) (hv.2.2.2.2.2.2.1 _ rfl))
        · refine dw_g rfl ?_
          refine dg_s (pc' := 107) [.ref x0] rfl (fun _ => rfl) rfl ?_
          refine dg_s (pc' := 109) [.int x5, .ref x0] rfl (fun _ => rfl) rfl ?_
          refine dg_s (pc' := 110) [.int x3, .int x5, .ref x0] rfl (fun _ => rfl) rfl ?_
          refine dw_l (fun t => Φ (Option.bind t (dc_bk (d_X0_findQuarrels_l64s x0 x1 x2 x3 x4)))) (pc' := 113) (fun q1 => []) (fun q1 => q1) rfl (fun _ => rfl) (fun q1 => ?_)
          refine dw_g rfl ?_
          refine dg_s (pc' := 114) [.ref x0] rfl (fun _ => rfl) rfl ?_
          refine dg_s (pc' := 117) [.ref (x0 + 2)] rfl (fun _ => rfl) rfl ?_
          refine dg_s (pc' := 119) [.int x5, .ref (x0 + 2)] rfl (fun _ => rfl) rfl ?_
          refine dg_s (pc' := 120) [.int (q1.1 (x0 + 2) (Int32.toNatClampNeg x5))] rfl (fun _ => rfl) rfl ?_
          refine dg_L (pc' := 122) [(5, .int (q1.1 (x0 + 2) (Int32.toNatClampNeg x5))), (0, .ref x0), (1, .int x1), (2, .ref x2), (3, .int x3), (4, .int x4), (6, .int x6)] [] rfl (fun _ => rfl) rfl ?_
          refine dg_L (pc' := 125) [(6, .int (x6 + (1 : Int32))), (5, .int (q1.1 (x0 + 2) (Int32.toNatClampNeg x5))), (0, .ref x0), (1, .int x1), (2, .ref x2), (3, .int x3), (4, .int x4)] [] rfl (fun _ => rfl) rfl ?_
          refine dw_s (pc' := 64) [] rfl (fun _ => rfl) ?_
          exact dw_j rfl (fun lv1 hv => ih (q1.1 (x0 + 2) (Int32.toNatClampNeg x5)) (x6 + (1 : Int32)) q1 lv1 (hv.1 _ rfl) (hv.2.1 _ rfl) (hv.2.2.1 _ rfl) (hv.2.2.2.1 _ rfl) (hv.2.2.2.2.1 _ rfl) (hv.2.2.2.2.2.1 _ rfl) (hv.2.2.2.2.2.2.1 _ rfl))
noncomputable def d_X0_findQuarrels_l33b (x0 : Nat) (x1 : Int32) (x2 : Nat) (x3 : Int32) (m : dc_M) : Option ((Int32 × dc_M) ⊕ dc_M) :=
  (if (Int32.toInt (m.1 x2 0)) ≤ (Int32.toInt x3) then some (Sum.inr (m)) else (d_X0_findQuarrels_l64 x0 x1 x2 x3 ((m.1 (x2 + 3) (Int32.toNatClampNeg x3)) &&& (63 : Int32)) (m.1 (x0 + 1) (Int32.toNatClampNeg ((m.1 (x2 + 3) (Int32.toNatClampNeg x3)) &&& (63 : Int32)))) (0 : Int32) m))
noncomputable def d_X0_findQuarrels_l33s (x0 : Nat) (x1 : Int32) (x2 : Nat) : (Int32 × dc_M) → Option ((Int32 × dc_M) ⊕ dc_M) := fun s => d_X0_findQuarrels_l33b x0 x1 x2 s.1 s.2
noncomputable def d_X0_findQuarrels_l33 (x0 : Nat) (x1 : Int32) (x2 : Nat) (x3 : Int32) (m : dc_M) : Option dc_M := dc_lp (d_X0_findQuarrels_l33s x0 x1 x2) (x3, m)
set_option maxHeartbeats 8000000 in
theorem k_X0_findQuarrels_l33 {u : Nat} {Φ : (Option dc_M) → Option Value → dc_M → Prop} (x0 : Nat) (x1 : Int32) (x2 : Nat) (kR : ∀  (m : dc_M), Φ (some (m)) (none) m) : ∀ (N : Nat), ∀ (x3 : Int32) (m : dc_M) (lv : ab_L), ab_lk lv 0 = some (.ref x0) → ab_lk lv 1 = some (.int x1) → ab_lk lv 2 = some (.ref x2) → ab_lk lv 3 = some (.int x3) → dc_pv u N ab_M_X0_findQuarrels 33 lv [] m (Φ (d_X0_findQuarrels_l33 x0 x1 x2 x3 m)) := by
  intro N
  induction N with
  | zero => intros; exact dc_pv_zero
  | succ N ih =>
    intro x3 m lv f0 f1 f2 f3
    refine dc_ok (C := C_X0_findQuarrels) (S := S_X0_findQuarrels) CO_X0_findQuarrels 400 33 [(0, .ref x0), (1, .int x1), (2, .ref x2), (3, .int x3)] lv [] m (dc_sub_cons f0 (dc_sub_cons f1 (dc_sub_cons f2 (dc_sub_cons f3 (dc_sub_nil))))) ?_
    unfold d_X0_findQuarrels_l33
    rw [dc_lp_eq]
    show (fun t x => dc_lf u N ab_M_X0_findQuarrels (Φ (Option.bind t (dc_bk (d_X0_findQuarrels_l33s x0 x1 x2)))) x) (d_X0_findQuarrels_l33b x0 x1 x2 x3 m) _
    dsimp only
    unfold d_X0_findQuarrels_l33b
    refine dg_s (pc' := 34) [.int x3] rfl (fun _ => rfl) rfl ?_
    refine dg_s (pc' := 35) [.ref x2, .int x3] rfl (fun _ => rfl) rfl ?_
    refine dg_s (pc' := 38) [.int (m.1 x2 0), .int x3] rfl (fun _ => rfl) rfl ?_
    refine dw_if (fun t => Φ (Option.bind t (dc_bk (d_X0_findQuarrels_l33s x0 x1 x2)))) ((Int32.toInt (m.1 x2 0)) ≤ (Int32.toInt x3)) [] 155 41 rfl (fun _ => rfl) (fun c0 => ?_) (fun c0 => ?_)
    · refine dw_g rfl ?_
      exact dw_r (some (.inl (none, m))) rfl (fun _ => rfl) (kR _)
    · refine dw_g rfl ?_
      refine dg_s (pc' := 42) [.ref x2] rfl (fun _ => rfl) rfl ?_
      refine dg_s (pc' := 45) [.ref (x2 + 3)] rfl (fun _ => rfl) rfl ?_
      refine dg_s (pc' := 46) [.int x3, .ref (x2 + 3)] rfl (fun _ => rfl) rfl ?_
      refine dg_s (pc' := 47) [.int (m.1 (x2 + 3) (Int32.toNatClampNeg x3))] rfl (fun _ => rfl) rfl ?_
      refine dg_s (pc' := 49) [.int (63 : Int32), .int (m.1 (x2 + 3) (Int32.toNatClampNeg x3))] rfl (fun _ => rfl) rfl ?_
      refine dg_s (pc' := 50) [.int ((m.1 (x2 + 3) (Int32.toNatClampNeg x3)) &&& (63 : Int32))] rfl (fun _ => rfl) rfl ?_
      refine dg_L (pc' := 52) [(4, .int ((m.1 (x2 + 3) (Int32.toNatClampNeg x3)) &&& (63 : Int32))), (0, .ref x0), (1, .int x1), (2, .ref x2), (3, .int x3)] [] rfl (fun _ => rfl) rfl ?_
      refine dg_s (pc' := 53) [.ref x0] rfl (fun _ => rfl) rfl ?_
      refine dg_s (pc' := 56) [.ref (x0 + 1)] rfl (fun _ => rfl) rfl ?_
      refine dg_s (pc' := 58) [.int ((m.1 (x2 + 3) (Int32.toNatClampNeg x3)) &&& (63 : Int32)), .ref (x0 + 1)] rfl (fun _ => rfl) rfl ?_
      refine dg_s (pc' := 59) [.int (m.1 (x0 + 1) (Int32.toNatClampNeg ((m.1 (x2 + 3) (Int32.toNatClampNeg x3)) &&& (63 : Int32))))] rfl (fun _ => rfl) rfl ?_
      refine dg_L (pc' := 61) [(5, .int (m.1 (x0 + 1) (Int32.toNatClampNeg ((m.1 (x2 + 3) (Int32.toNatClampNeg x3)) &&& (63 : Int32))))), (4, .int ((m.1 (x2 + 3) (Int32.toNatClampNeg x3)) &&& (63 : Int32))), (0, .ref x0), (1, .int x1), (2, .ref x2), (3, .int x3)] [] rfl (fun _ => rfl) rfl ?_
      refine dg_s (pc' := 62) [.int (0 : Int32)] rfl (fun _ => rfl) rfl ?_
      refine dw_L (pc' := 64) [(6, .int (0 : Int32)), (5, .int (m.1 (x0 + 1) (Int32.toNatClampNeg ((m.1 (x2 + 3) (Int32.toNatClampNeg x3)) &&& (63 : Int32))))), (4, .int ((m.1 (x2 + 3) (Int32.toNatClampNeg x3)) &&& (63 : Int32))), (0, .ref x0), (1, .int x1), (2, .ref x2), (3, .int x3)] [] rfl (fun _ => rfl) ?_
      exact dw_j rfl (fun lv1 hv => k_X0_findQuarrels_l64 (Φ := (fun t => Φ (Option.bind t (dc_bk (d_X0_findQuarrels_l33s x0 x1 x2))))) x0 x1 x2 x3 ((m.1 (x2 + 3) (Int32.toNatClampNeg x3)) &&& (63 : Int32)) (fun _b => kR _b) N ih (m.1 (x0 + 1) (Int32.toNatClampNeg ((m.1 (x2 + 3) (Int32.toNatClampNeg x3)) &&& (63 : Int32)))) (0 : Int32) m lv1 (hv.1 _ rfl) (hv.2.1 _ rfl) (hv.2.2.1 _ rfl) (hv.2.2.2.1 _ rfl) (hv.2.2.2.2.1 _ rfl) (hv.2.2.2.2.2.1 _ rfl) (hv.2.2.2.2.2.2.1 _ rfl))
noncomputable def d_X0_findQuarrels (x0 : Nat) (x1 : Int32) (x2 : Nat) (m : dc_M) : Option dc_M :=
  ((d_J7_fill_53178 (x0 + 1) (-4 : Int32) (dc_wi (dc_wi (dc_wi (dc_wi m x0 0 (0 : Int32)) x0 1 (0 : Int32)) x0 2 (-4 : Int32)) x0 3 (-4 : Int32))).bind (fun q1 => (d_X0_findQuarrels_l33 x0 x1 x2 (0 : Int32) q1)))
set_option maxHeartbeats 8000000 in
theorem k_X0_findQuarrels {u : Nat} {N : Nat} {Φ : (Option dc_M) → Option Value → dc_M → Prop} (x0 : Nat) (x1 : Int32) (x2 : Nat) (m : dc_M) (kR : ∀  (m : dc_M), Φ (some (m)) (none) m)  {lv : ab_L} (f0 : ab_lk lv 0 = some (.ref x0)) (f1 : ab_lk lv 1 = some (.int x1)) (f2 : ab_lk lv 2 = some (.ref x2)) : dc_pv u N ab_M_X0_findQuarrels 0 lv [] m (Φ (d_X0_findQuarrels x0 x1 x2 m)) := by
  refine dc_pv.mono (dc_ok (C := C_X0_findQuarrels) (S := S_X0_findQuarrels) CO_X0_findQuarrels 400 0 [(0, .ref x0), (1, .int x1), (2, .ref x2)] lv [] m (dc_sub_cons f0 (dc_sub_cons f1 (dc_sub_cons f2 (dc_sub_nil)))) ?_) (Nat.le_succ N)
  unfold d_X0_findQuarrels
  refine dg_s (pc' := 1) [.ref x0] rfl (fun _ => rfl) rfl ?_
  refine dg_s (pc' := 2) [.int (0 : Int32), .ref x0] rfl (fun _ => rfl) rfl ?_
  refine dg_m (pc' := 5) (dc_wi m x0 0 (0 : Int32)) [] rfl (fun _ => rfl) rfl ?_
  refine dg_s (pc' := 6) [.ref x0] rfl (fun _ => rfl) rfl ?_
  refine dg_s (pc' := 7) [.int (0 : Int32), .ref x0] rfl (fun _ => rfl) rfl ?_
  refine dg_m (pc' := 10) (dc_wi (dc_wi m x0 0 (0 : Int32)) x0 1 (0 : Int32)) [] rfl (fun _ => rfl) rfl ?_
  refine dg_s (pc' := 11) [.ref x0] rfl (fun _ => rfl) rfl ?_
  refine dg_s (pc' := 13) [.int (-4 : Int32), .ref x0] rfl (fun _ => rfl) rfl ?_
  refine dg_m (pc' := 16) (dc_wi (dc_wi (dc_wi m x0 0 (0 : Int32)) x0 1 (0 : Int32)) x0 2 (-4 : Int32)) [] rfl (fun _ => rfl) rfl ?_
  refine dg_s (pc' := 17) [.ref x0] rfl (fun _ => rfl) rfl ?_
  refine dg_s (pc' := 19) [.int (-4 : Int32), .ref x0] rfl (fun _ => rfl) rfl ?_
  refine dg_m (pc' := 22) (dc_wi (dc_wi (dc_wi (dc_wi m x0 0 (0 : Int32)) x0 1 (0 : Int32)) x0 2 (-4 : Int32)) x0 3 (-4 : Int32)) [] rfl (fun _ => rfl) rfl ?_
  refine dg_s (pc' := 23) [.ref x0] rfl (fun _ => rfl) rfl ?_
  refine dg_s (pc' := 26) [.ref (x0 + 1)] rfl (fun _ => rfl) rfl ?_
  refine dg_s (pc' := 28) [.int (-4 : Int32), .ref (x0 + 1)] rfl (fun _ => rfl) rfl ?_
  refine dw_b (fun t => Φ t) (pc' := 31) (fun q1 => []) (fun q1 => q1) rfl (fun _ => rfl) (fun q1 => ?_)
  refine dw_g rfl ?_
  refine dg_s (pc' := 32) [.int (0 : Int32)] rfl (fun _ => rfl) rfl ?_
  refine dw_L (pc' := 33) [(3, .int (0 : Int32)), (0, .ref x0), (1, .int x1), (2, .ref x2)] [] rfl (fun _ => rfl) ?_
  exact dw_j rfl (fun lv1 hv => k_X0_findQuarrels_l33 (Φ := (fun t => Φ t)) x0 x1 x2 (fun _b => kR _b) N  (0 : Int32) q1 lv1 (hv.1 _ rfl) (hv.2.1 _ rfl) (hv.2.2.1 _ rfl) (hv.2.2.2.1 _ rfl))
noncomputable def H_X0_findQuarrels : dc_H := fun As m k => match As with
  | [.ref x0, .int x1, .ref x2] => (d_X0_findQuarrels x0 x1 x2 m).bind (fun q => k (none) q)
  | _ => dc_kz
theorem H_X0_findQuarrels_ok {u : Nat} : dc_cok u 2 H_X0_findQuarrels := fun M' hG N As m k P hz hP => by
  obtain rfl : ab_M_X0_findQuarrels = M' := Option.some.inj hG
  unfold H_X0_findQuarrels at hP
  split at hP
  · rename_i x0 x1 x2
    exact dc_pv.imp (k_X0_findQuarrels (Φ := fun (t : Option dc_M) r m' => P (t.bind (fun q => k (none) q)) → P (k r m')) x0 x1 x2 m (fun _ h => h) rfl rfl rfl) (fun r m' h => h hP)
  · exact absurd hP hz
def C_X0_addTakenBack : List (Nat × dc_H) := []
theorem CO_X0_addTakenBack {u : Nat} : dc_CO u C_X0_addTakenBack := dc_CO_nil
def S_X0_addTakenBack : List (Nat × List Nat) := [(3, [0, 1, 2, 3, 4, 5, 6]), (63, [0, 1, 2, 3, 4, 5, 6])]
noncomputable def d_X0_addTakenBack_b63 (x0 : Nat) (x1 : Nat) (x2 : Int32) (x3 : Int32) (x4 : Int32) (x5 : Int32) (x6 : Int32) (m : dc_M) : Option ((Int32 × dc_M) ⊕ dc_M) :=
  some (Sum.inl ((x6 + (1 : Int32)), (dc_wi (dc_wi (dc_wi (dc_wi m x0 5 x4) x0 6 x6) x0 7 x5) x0 4 (((dc_wi (dc_wi (dc_wi m x0 5 x4) x0 6 x6) x0 7 x5).1 x0 4) + (1 : Int32)))))
set_option maxHeartbeats 8000000 in
theorem k_X0_addTakenBack_b63 {u : Nat} {N : Nat} {Φ : (Option ((Int32 × dc_M) ⊕ dc_M)) → Option Value → dc_M → Prop} (x0 : Nat) (x1 : Nat) (x2 : Int32) (x3 : Int32) (x4 : Int32) (x5 : Int32) (x6 : Int32) (m : dc_M) (kR : ∀  (m : dc_M), Φ (some (Sum.inr (m))) (none) m) (k3 : ∀ (x6 : Int32) (m : dc_M) (lv : ab_L), ab_lk lv 0 = some (.ref x0) → ab_lk lv 1 = some (.ref x1) → ab_lk lv 2 = some (.int x2) → ab_lk lv 3 = some (.int x3) → ab_lk lv 4 = some (.int x4) → ab_lk lv 5 = some (.int x5) → ab_lk lv 6 = some (.int x6) →  dc_pv u N ab_M_X0_addTakenBack 3 lv [] m (Φ (some (Sum.inl (x6, m))))) {lv : ab_L} (f0 : ab_lk lv 0 = some (.ref x0)) (f1 : ab_lk lv 1 = some (.ref x1)) (f2 : ab_lk lv 2 = some (.int x2)) (f3 : ab_lk lv 3 = some (.int x3)) (f4 : ab_lk lv 4 = some (.int x4)) (f5 : ab_lk lv 5 = some (.int x5)) (f6 : ab_lk lv 6 = some (.int x6)) : dc_pv u N ab_M_X0_addTakenBack 63 lv [] m (Φ (d_X0_addTakenBack_b63 x0 x1 x2 x3 x4 x5 x6 m)) := by
  refine dc_pv.mono (dc_ok (C := C_X0_addTakenBack) (S := S_X0_addTakenBack) CO_X0_addTakenBack 400 63 [(0, .ref x0), (1, .ref x1), (2, .int x2), (3, .int x3), (4, .int x4), (5, .int x5), (6, .int x6)] lv [] m (dc_sub_cons f0 (dc_sub_cons f1 (dc_sub_cons f2 (dc_sub_cons f3 (dc_sub_cons f4 (dc_sub_cons f5 (dc_sub_cons f6 (dc_sub_nil)))))))) ?_) (Nat.le_succ N)
  unfold d_X0_addTakenBack_b63
  refine dg_s (pc' := 64) [.ref x0] rfl (fun _ => rfl) rfl ?_
  refine dg_s (pc' := 66) [.int x4, .ref x0] rfl (fun _ => rfl) rfl ?_
  refine dg_m (pc' := 69) (dc_wi m x0 5 x4) [] rfl (fun _ => rfl) rfl ?_
  refine dg_s (pc' := 70) [.ref x0] rfl (fun _ => rfl) rfl ?_
  refine dg_s (pc' := 72) [.int x6, .ref x0] rfl (fun _ => rfl) rfl ?_
  refine dg_m (pc' := 75) (dc_wi (dc_wi m x0 5 x4) x0 6 x6) [] rfl (fun _ => rfl) rfl ?_
  refine dg_s (pc' := 76) [.ref x0] rfl (fun _ => rfl) rfl ?_
  refine dg_s (pc' := 78) [.int x5, .ref x0] rfl (fun _ => rfl) rfl ?_
  refine dg_m (pc' := 81) (dc_wi (dc_wi (dc_wi m x0 5 x4) x0 6 x6) x0 7 x5) [] rfl (fun _ => rfl) rfl ?_
  refine dg_s (pc' := 82) [.ref x0] rfl (fun _ => rfl) rfl ?_
  refine dg_s (pc' := 83) [.ref x0, .ref x0] rfl (fun _ => rfl) rfl ?_
  refine dg_s (pc' := 86) [.int ((dc_wi (dc_wi (dc_wi m x0 5 x4) x0 6 x6) x0 7 x5).1 x0 4), .ref x0] rfl (fun _ => rfl) rfl ?_
  refine dg_s (pc' := 87) [.int (1 : Int32), .int ((dc_wi (dc_wi (dc_wi m x0 5 x4) x0 6 x6) x0 7 x5).1 x0 4), .ref x0] rfl (fun _ => rfl) rfl ?_
  refine dg_s (pc' := 88) [.int (((dc_wi (dc_wi (dc_wi m x0 5 x4) x0 6 x6) x0 7 x5).1 x0 4) + (1 : Int32)), .ref x0] rfl (fun _ => rfl) rfl ?_
  refine dg_m (pc' := 91) (dc_wi (dc_wi (dc_wi (dc_wi m x0 5 x4) x0 6 x6) x0 7 x5) x0 4 (((dc_wi (dc_wi (dc_wi m x0 5 x4) x0 6 x6) x0 7 x5).1 x0 4) + (1 : Int32))) [] rfl (fun _ => rfl) rfl ?_
  refine dg_L (pc' := 94) [(6, .int (x6 + (1 : Int32))), (0, .ref x0), (1, .ref x1), (2, .int x2), (3, .int x3), (4, .int x4), (5, .int x5)] [] rfl (fun _ => rfl) rfl ?_
  refine dw_s (pc' := 3) [] rfl (fun _ => rfl) ?_
  exact dw_j rfl (fun lv1 hv => k3 (x6 + (1 : Int32)) (dc_wi (dc_wi (dc_wi (dc_wi m x0 5 x4) x0 6 x6) x0 7 x5) x0 4 (((dc_wi (dc_wi (dc_wi m x0 5 x4) x0 6 x6) x0 7 x5).1 x0 4) + (1 : Int32))) lv1 (hv.1 _ rfl) (hv.2.1 _ rfl) (hv.2.2.1 _ rfl) (hv.2.2.2.1 _ rfl) (hv.2.2.2.2.1 _ rfl) (hv.2.2.2.2.2.1 _ rfl) (hv.2.2.2.2.2.2.1 _ rfl))
noncomputable def d_X0_addTakenBack_l3b (x0 : Nat) (x1 : Nat) (x2 : Int32) (x3 : Int32) (x4 : Int32) (x5 : Int32) (x6 : Int32) (m : dc_M) : Option ((Int32 × dc_M) ⊕ dc_M) :=
  (if (Int32.toInt (m.1 x1 1)) ≤ (Int32.toInt x6) then some (Sum.inr (m)) else (if (Int32.toInt ((x3 >>> (x6 &&& 31)) &&& (1 : Int32))) = 0 then some (Sum.inl ((x6 + (1 : Int32)), m)) else (if ¬ (Int32.toInt ((x2 >>> ((m.1 (x1 + 3) (Int32.toNatClampNeg x6)) &&& 31)) &&& (1 : Int32))) = 0 then (if (Int32.toInt (m.1 x0 4)) = 0 then (d_X0_addTakenBack_b63 x0 x1 x2 x3 x4 x5 x6 m) else (if ¬ (Int32.toInt x4) = (Int32.toInt (m.1 x0 5)) then some (Sum.inl ((x6 + (1 : Int32)), (dc_wi m x0 4 ((m.1 x0 4) + (1 : Int32))))) else (if (Int32.toInt (m.1 x0 6)) ≤ (Int32.toInt x6) then some (Sum.inl ((x6 + (1 : Int32)), (dc_wi m x0 4 ((m.1 x0 4) + (1 : Int32))))) else (d_X0_addTakenBack_b63 x0 x1 x2 x3 x4 x5 x6 m)))) else some (Sum.inl ((x6 + (1 : Int32)), m)))))
noncomputable def d_X0_addTakenBack_l3s (x0 : Nat) (x1 : Nat) (x2 : Int32) (x3 : Int32) (x4 : Int32) (x5 : Int32) : (Int32 × dc_M) → Option ((Int32 × dc_M) ⊕ dc_M) := fun s => d_X0_addTakenBack_l3b x0 x1 x2 x3 x4 x5 s.1 s.2
noncomputable def d_X0_addTakenBack_l3 (x0 : Nat) (x1 : Nat) (x2 : Int32) (x3 : Int32) (x4 : Int32) (x5 : Int32) (x6 : Int32) (m : dc_M) : Option dc_M := dc_lp (d_X0_addTakenBack_l3s x0 x1 x2 x3 x4 x5) (x6, m)
set_option maxHeartbeats 8000000 in
theorem k_X0_addTakenBack_l3 {u : Nat} {Φ : (Option dc_M) → Option Value → dc_M → Prop} (x0 : Nat) (x1 : Nat) (x2 : Int32) (x3 : Int32) (x4 : Int32) (x5 : Int32) (kR : ∀  (m : dc_M), Φ (some (m)) (none) m) : ∀ (N : Nat), ∀ (x6 : Int32) (m : dc_M) (lv : ab_L), ab_lk lv 0 = some (.ref x0) → ab_lk lv 1 = some (.ref x1) → ab_lk lv 2 = some (.int x2) → ab_lk lv 3 = some (.int x3) → ab_lk lv 4 = some (.int x4) → ab_lk lv 5 = some (.int x5) → ab_lk lv 6 = some (.int x6) → dc_pv u N ab_M_X0_addTakenBack 3 lv [] m (Φ (d_X0_addTakenBack_l3 x0 x1 x2 x3 x4 x5 x6 m)) := by
  intro N
  induction N with
  | zero => intros; exact dc_pv_zero
  | succ N ih =>
    intro x6 m lv f0 f1 f2 f3 f4 f5 f6
    refine dc_ok (C := C_X0_addTakenBack) (S := S_X0_addTakenBack) CO_X0_addTakenBack 400 3 [(0, .ref x0), (1, .ref x1), (2, .int x2), (3, .int x3), (4, .int x4), (5, .int x5), (6, .int x6)] lv [] m (dc_sub_cons f0 (dc_sub_cons f1 (dc_sub_cons f2 (dc_sub_cons f3 (dc_sub_cons f4 (dc_sub_cons f5 (dc_sub_cons f6 (dc_sub_nil)))))))) ?_
    unfold d_X0_addTakenBack_l3
    rw [dc_lp_eq]
    show (fun t x => dc_lf u N ab_M_X0_addTakenBack (Φ (Option.bind t (dc_bk (d_X0_addTakenBack_l3s x0 x1 x2 x3 x4 x5)))) x) (d_X0_addTakenBack_l3b x0 x1 x2 x3 x4 x5 x6 m) _
    dsimp only
    unfold d_X0_addTakenBack_l3b
    refine dg_s (pc' := 5) [.int x6] rfl (fun _ => rfl) rfl ?_
    refine dg_s (pc' := 6) [.ref x1, .int x6] rfl (fun _ => rfl) rfl ?_
    refine dg_s (pc' := 9) [.int (m.1 x1 1), .int x6] rfl (fun _ => rfl) rfl ?_
    refine dw_if (fun t => Φ (Option.bind t (dc_bk (d_X0_addTakenBack_l3s x0 x1 x2 x3 x4 x5)))) ((Int32.toInt (m.1 x1 1)) ≤ (Int32.toInt x6)) [] 97 12 rfl (fun _ => rfl) (fun c0 => ?_) (fun c0 => ?_)
    · refine dw_g rfl ?_
      exact dw_r (some (.inl (none, m))) rfl (fun _ => rfl) (kR _)
    · refine dw_g rfl ?_
      refine dg_s (pc' := 13) [.int x3] rfl (fun _ => rfl) rfl ?_
      refine dg_s (pc' := 15) [.int x6, .int x3] rfl (fun _ => rfl) rfl ?_
      refine dg_s (pc' := 16) [.int (x3 >>> (x6 &&& 31))] rfl (fun _ => rfl) rfl ?_
      refine dg_s (pc' := 17) [.int (1 : Int32), .int (x3 >>> (x6 &&& 31))] rfl (fun _ => rfl) rfl ?_
      refine dg_s (pc' := 18) [.int ((x3 >>> (x6 &&& 31)) &&& (1 : Int32))] rfl (fun _ => rfl) rfl ?_
      refine dw_if (fun t => Φ (Option.bind t (dc_bk (d_X0_addTakenBack_l3s x0 x1 x2 x3 x4 x5)))) ((Int32.toInt ((x3 >>> (x6 &&& 31)) &&& (1 : Int32))) = 0) [] 91 21 rfl (fun _ => rfl) (fun c1 => ?_) (fun c1 => ?_)
      · refine dw_g rfl ?_
        refine dg_L (pc' := 94) [(6, .int (x6 + (1 : Int32))), (0, .ref x0), (1, .ref x1), (2, .int x2), (3, .int x3), (4, .int x4), (5, .int x5)] [] rfl (fun _ => rfl) rfl ?_
        refine dw_s (pc' := 3) [] rfl (fun _ => rfl) ?_
        exact dw_j rfl (fun lv1 hv => ih (x6 + (1 : Int32)) m lv1 (hv.1 _ rfl) (hv.2.1 _ rfl) (hv.2.2.1 _ rfl) (hv.2.2.2.1 _ rfl) (hv.2.2.2.2.1 _ rfl) (hv.2.2.2.2.2.1 _ rfl) (hv.2.2.2.2.2.2.1 _ rfl))
      · refine dw_g rfl ?_
        refine dg_s (pc' := 22) [.int x2] rfl (fun _ => rfl) rfl ?_
        refine dg_s (pc' := 23) [.ref x1, .int x2] rfl (fun _ => rfl) rfl ?_
        refine dg_s (pc' := 26) [.ref (x1 + 3), .int x2] rfl (fun _ => rfl) rfl ?_
        refine dg_s (pc' := 28) [.int x6, .ref (x1 + 3), .int x2] rfl (fun _ => rfl) rfl ?_
        refine dg_s (pc' := 29) [.int (m.1 (x1 + 3) (Int32.toNatClampNeg x6)), .int x2] rfl (fun _ => rfl) rfl ?_
        refine dg_s (pc' := 30) [.int (x2 >>> ((m.1 (x1 + 3) (Int32.toNatClampNeg x6)) &&& 31))] rfl (fun _ => rfl) rfl ?_
        refine dg_s (pc' := 31) [.int (1 : Int32), .int (x2 >>> ((m.1 (x1 + 3) (Int32.toNatClampNeg x6)) &&& 31))] rfl (fun _ => rfl) rfl ?_
        refine dg_s (pc' := 32) [.int ((x2 >>> ((m.1 (x1 + 3) (Int32.toNatClampNeg x6)) &&& 31)) &&& (1 : Int32))] rfl (fun _ => rfl) rfl ?_
        refine dw_if (fun t => Φ (Option.bind t (dc_bk (d_X0_addTakenBack_l3s x0 x1 x2 x3 x4 x5)))) (¬ (Int32.toInt ((x2 >>> ((m.1 (x1 + 3) (Int32.toNatClampNeg x6)) &&& 31)) &&& (1 : Int32))) = 0) [] 38 35 rfl (fun _ => rfl) (fun c2 => ?_) (fun c2 => ?_)
        · refine dw_g rfl ?_
          refine dg_s (pc' := 39) [.ref x0] rfl (fun _ => rfl) rfl ?_
          refine dg_s (pc' := 42) [.int (m.1 x0 4)] rfl (fun _ => rfl) rfl ?_
          refine dw_if (fun t => Φ (Option.bind t (dc_bk (d_X0_addTakenBack_l3s x0 x1 x2 x3 x4 x5)))) ((Int32.toInt (m.1 x0 4)) = 0) [] 63 45 rfl (fun _ => rfl) (fun c3 => ?_) (fun c3 => ?_)
          · exact dw_j rfl (fun lv1 hv => k_X0_addTakenBack_b63 (Φ := (fun t => Φ (Option.bind t (dc_bk (d_X0_addTakenBack_l3s x0 x1 x2 x3 x4 x5))))) x0 x1 x2 x3 x4 x5 x6 m (fun _b => kR _b) ih (hv.1 _ rfl) (hv.2.1 _ rfl) (hv.2.2.1 _ rfl) (hv.2.2.2.1 _ rfl) (hv.2.2.2.2.1 _ rfl) (hv.2.2.2.2.2.1 _ rfl) (hv.2.2.2.2.2.2.1 _ rfl))
          · refine dw_g rfl ?_
            refine dg_s (pc' := 47) [.int x4] rfl (fun _ => rfl) rfl ?_
            refine dg_s (pc' := 48) [.ref x0, .int x4] rfl (fun _ => rfl) rfl ?_
            refine dg_s (pc' := 51) [.int (m.1 x0 5), .int x4] rfl (fun _ => rfl) rfl ?_
            refine dw_if (fun t => Φ (Option.bind t (dc_bk (d_X0_addTakenBack_l3s x0 x1 x2 x3 x4 x5)))) (¬ (Int32.toInt x4) = (Int32.toInt (m.1 x0 5))) [] 81 54 rfl (fun _ => rfl) (fun c4 => ?_) (fun c4 => ?_)
            · refine dw_g rfl ?_
              refine dg_s (pc' := 82) [.ref x0] rfl (fun _ => rfl) rfl ?_
              refine dg_s (pc' := 83) [.ref x0, .ref x0] rfl (fun _ => rfl) rfl ?_
              refine dg_s (pc' := 86) [.int (m.1 x0 4), .ref x0] rfl (fun _ => rfl) rfl ?_
              refine dg_s (pc' := 87) [.int (1 : Int32), .int (m.1 x0 4), .ref x0] rfl (fun _ => rfl) rfl ?_
              refine dg_s (pc' := 88) [.int ((m.1 x0 4) + (1 : Int32)), .ref x0] rfl (fun _ => rfl) rfl ?_
              refine dg_m (pc' := 91) (dc_wi m x0 4 ((m.1 x0 4) + (1 : Int32))) [] rfl (fun _ => rfl) rfl ?_
              refine dg_L (pc' := 94) [(6, .int (x6 + (1 : Int32))), (0, .ref x0), (1, .ref x1), (2, .int x2), (3, .int x3), (4, .int x4), (5, .int x5)] [] rfl (fun _ => rfl) rfl ?_
              refine dw_s (pc' := 3) [] rfl (fun _ => rfl) ?_
              exact dw_j rfl (fun lv1 hv => ih (x6 + (1 : Int32)) (dc_wi m x0 4 ((m.1 x0 4) + (1 : Int32))) lv1 (hv.1 _ rfl) (hv.2.1 _ rfl) (hv.2.2.1 _ rfl) (hv.2.2.2.1 _ rfl) (hv.2.2.2.2.1 _ rfl) (hv.2.2.2.2.2.1 _ rfl) (hv.2.2.2.2.2.2.1 _ rfl))
            · refine dw_g rfl ?_
              refine dg_s (pc' := 56) [.int x6] rfl (fun _ => rfl) rfl ?_
              refine dg_s (pc' := 57) [.ref x0, .int x6] rfl (fun _ => rfl) rfl ?_
              refine dg_s (pc' := 60) [.int (m.1 x0 6), .int x6] rfl (fun _ => rfl) rfl ?_
              refine dw_if (fun t => Φ (Option.bind t (dc_bk (d_X0_addTakenBack_l3s x0 x1 x2 x3 x4 x5)))) ((Int32.toInt (m.1 x0 6)) ≤ (Int32.toInt x6)) [] 81 63 rfl (fun _ => rfl) (fun c5 => ?_) (fun c5 => ?_)
              · refine dw_g rfl ?_
                refine dg_s (pc' := 82) [.ref x0] rfl (fun _ => rfl) rfl ?_
                refine dg_s (pc' := 83) [.ref x0, .ref x0] rfl (fun _ => rfl) rfl ?_
                refine dg_s (pc' := 86) [.int (m.1 x0 4), .ref x0] rfl (fun _ => rfl) rfl ?_
                refine dg_s (pc' := 87) [.int (1 : Int32), .int (m.1 x0 4), .ref x0] rfl (fun _ => rfl) rfl ?_
                refine dg_s (pc' := 88) [.int ((m.1 x0 4) + (1 : Int32)), .ref x0] rfl (fun _ => rfl) rfl ?_
                refine dg_m (pc' := 91) (dc_wi m x0 4 ((m.1 x0 4) + (1 : Int32))) [] rfl (fun _ => rfl) rfl ?_
                refine dg_L (pc' := 94) [(6, .int (x6 + (1 : Int32))), (0, .ref x0), (1, .ref x1), (2, .int x2), (3, .int x3), (4, .int x4), (5, .int x5)] [] rfl (fun _ => rfl) rfl ?_
                refine dw_s (pc' := 3) [] rfl (fun _ => rfl) ?_
                exact dw_j rfl (fun lv1 hv => ih (x6 + (1 : Int32)) (dc_wi m x0 4 ((m.1 x0 4) + (1 : Int32))) lv1 (hv.1 _ rfl) (hv.2.1 _ rfl) (hv.2.2.1 _ rfl) (hv.2.2.2.1 _ rfl) (hv.2.2.2.2.1 _ rfl) (hv.2.2.2.2.2.1 _ rfl) (hv.2.2.2.2.2.2.1 _ rfl))
              · exact dw_j rfl (fun lv1 hv => k_X0_addTakenBack_b63 (Φ := (fun t => Φ (Option.bind t (dc_bk (d_X0_addTakenBack_l3s x0 x1 x2 x3 x4 x5))))) x0 x1 x2 x3 x4 x5 x6 m (fun _b => kR _b) ih (hv.1 _ rfl) (hv.2.1 _ rfl) (hv.2.2.1 _ rfl) (hv.2.2.2.1 _ rfl) (hv.2.2.2.2.1 _ rfl) (hv.2.2.2.2.2.1 _ rfl) (hv.2.2.2.2.2.2.1 _ rfl))
        · refine dw_g rfl ?_
          refine dg_s (pc' := 91) [] rfl (fun _ => rfl) rfl ?_
          refine dg_L (pc' := 94) [(6, .int (x6 + (1 : Int32))), (0, .ref x0), (1, .ref x1), (2, .int x2), (3, .int x3), (4, .int x4), (5, .int x5)] [] rfl (fun _ => rfl) rfl ?_
          refine dw_s (pc' := 3) [] rfl (fun _ => rfl) ?_
          exact dw_j rfl (fun lv1 hv => ih (x6 + (1 : Int32)) m lv1 (hv.1 _ rfl) (hv.2.1 _ rfl) (hv.2.2.1 _ rfl) (hv.2.2.2.1 _ rfl) (hv.2.2.2.2.1 _ rfl) (hv.2.2.2.2.2.1 _ rfl) (hv.2.2.2.2.2.2.1 _ rfl))
noncomputable def d_X0_addTakenBack (x0 : Nat) (x1 : Nat) (x2 : Int32) (x3 : Int32) (x4 : Int32) (x5 : Int32) (m : dc_M) : Option dc_M :=
  (d_X0_addTakenBack_l3 x0 x1 x2 x3 x4 x5 (0 : Int32) m)
set_option maxHeartbeats 8000000 in
theorem k_X0_addTakenBack {u : Nat} {N : Nat} {Φ : (Option dc_M) → Option Value → dc_M → Prop} (x0 : Nat) (x1 : Nat) (x2 : Int32) (x3 : Int32) (x4 : Int32) (x5 : Int32) (m : dc_M) (kR : ∀  (m : dc_M), Φ (some (m)) (none) m)  {lv : ab_L} (f0 : ab_lk lv 0 = some (.ref x0)) (f1 : ab_lk lv 1 = some (.ref x1)) (f2 : ab_lk lv 2 = some (.int x2)) (f3 : ab_lk lv 3 = some (.int x3)) (f4 : ab_lk lv 4 = some (.int x4)) (f5 : ab_lk lv 5 = some (.int x5)) : dc_pv u N ab_M_X0_addTakenBack 0 lv [] m (Φ (d_X0_addTakenBack x0 x1 x2 x3 x4 x5 m)) := by
  refine dc_pv.mono (dc_ok (C := C_X0_addTakenBack) (S := S_X0_addTakenBack) CO_X0_addTakenBack 400 0 [(0, .ref x0), (1, .ref x1), (2, .int x2), (3, .int x3), (4, .int x4), (5, .int x5)] lv [] m (dc_sub_cons f0 (dc_sub_cons f1 (dc_sub_cons f2 (dc_sub_cons f3 (dc_sub_cons f4 (dc_sub_cons f5 (dc_sub_nil))))))) ?_) (Nat.le_succ N)
  unfold d_X0_addTakenBack
  refine dg_s (pc' := 1) [.int (0 : Int32)] rfl (fun _ => rfl) rfl ?_
  refine dw_L (pc' := 3) [(6, .int (0 : Int32)), (0, .ref x0), (1, .ref x1), (2, .int x2), (3, .int x3), (4, .int x4), (5, .int x5)] [] rfl (fun _ => rfl) ?_
  exact dw_j rfl (fun lv1 hv => k_X0_addTakenBack_l3 (Φ := (fun t => Φ t)) x0 x1 x2 x3 x4 x5 (fun _b => kR _b) N  (0 : Int32) m lv1 (hv.1 _ rfl) (hv.2.1 _ rfl) (hv.2.2.1 _ rfl) (hv.2.2.2.1 _ rfl) (hv.2.2.2.2.1 _ rfl) (hv.2.2.2.2.2.1 _ rfl) (hv.2.2.2.2.2.2.1 _ rfl))
noncomputable def H_X0_addTakenBack : dc_H := fun As m k => match As with
  | [.ref x0, .ref x1, .int x2, .int x3, .int x4, .int x5] => (d_X0_addTakenBack x0 x1 x2 x3 x4 x5 m).bind (fun q => k (none) q)
  | _ => dc_kz
theorem H_X0_addTakenBack_ok {u : Nat} : dc_cok u 5 H_X0_addTakenBack := fun M' hG N As m k P hz hP => by
  obtain rfl : ab_M_X0_addTakenBack = M' := Option.some.inj hG
  unfold H_X0_addTakenBack at hP
  split at hP
  · rename_i x0 x1 x2 x3 x4 x5
    exact dc_pv.imp (k_X0_addTakenBack (Φ := fun (t : Option dc_M) r m' => P (t.bind (fun q => k (none) q)) → P (k r m')) x0 x1 x2 x3 x4 x5 m (fun _ h => h) rfl rfl rfl rfl rfl rfl) (fun r m' h => h hP)
  · exact absurd hP hz
def C_X7_behind : List (Nat × dc_H) := []
theorem CO_X7_behind {u : Nat} : dc_CO u C_X7_behind := dc_CO_nil
def S_X7_behind : List (Nat × List Nat) := []
def d_X7_behind (x0 : Nat) (x1 : Int32) (x2 : Int32) (m : dc_M) : Int32 :=
  (if (Int32.toInt (((m.1 (x0 + 2) (Int32.toNatClampNeg x1)) >>> (x2 &&& 31)) &&& (1 : Int32))) = 0 then (-4 : Int32) else (m.1 (x0 + 5) (Int32.toNatClampNeg ((x1 * (16 : Int32)) + x2))))
set_option maxHeartbeats 8000000 in
theorem k_X7_behind {u : Nat} {N : Nat} {Φ : Int32 → Option Value → dc_M → Prop} (x0 : Nat) (x1 : Int32) (x2 : Int32) (m : dc_M) (kR : ∀ (v : Int32), Φ (v) (some (.int v)) m)  {lv : ab_L} (f0 : ab_lk lv 0 = some (.ref x0)) (f1 : ab_lk lv 1 = some (.int x1)) (f2 : ab_lk lv 2 = some (.int x2)) : dc_pv u N ab_M_X7_behind 0 lv [] m (Φ (d_X7_behind x0 x1 x2 m)) := by
  refine dc_pv.mono (dc_ok (C := C_X7_behind) (S := S_X7_behind) CO_X7_behind 400 0 [(0, .ref x0), (1, .int x1), (2, .int x2)] lv [] m (dc_sub_cons f0 (dc_sub_cons f1 (dc_sub_cons f2 (dc_sub_nil)))) ?_) (Nat.le_succ N)
  unfold d_X7_behind
  refine dg_s (pc' := 1) [.ref x0] rfl (fun _ => rfl) rfl ?_
  refine dg_s (pc' := 4) [.ref (x0 + 2)] rfl (fun _ => rfl) rfl ?_
  refine dg_s (pc' := 5) [.int x1, .ref (x0 + 2)] rfl (fun _ => rfl) rfl ?_
  refine dg_s (pc' := 6) [.int (m.1 (x0 + 2) (Int32.toNatClampNeg x1))] rfl (fun _ => rfl) rfl ?_
  refine dg_s (pc' := 7) [.int x2, .int (m.1 (x0 + 2) (Int32.toNatClampNeg x1))] rfl (fun _ => rfl) rfl ?_
  refine dg_s (pc' := 8) [.int ((m.1 (x0 + 2) (Int32.toNatClampNeg x1)) >>> (x2 &&& 31))] rfl (fun _ => rfl) rfl ?_
  refine dg_s (pc' := 9) [.int (1 : Int32), .int ((m.1 (x0 + 2) (Int32.toNatClampNeg x1)) >>> (x2 &&& 31))] rfl (fun _ => rfl) rfl ?_
  refine dg_s (pc' := 10) [.int (((m.1 (x0 + 2) (Int32.toNatClampNeg x1)) >>> (x2 &&& 31)) &&& (1 : Int32))] rfl (fun _ => rfl) rfl ?_
  refine dw_if (fun t => Φ t) ((Int32.toInt (((m.1 (x0 + 2) (Int32.toNatClampNeg x1)) >>> (x2 &&& 31)) &&& (1 : Int32))) = 0) [] 27 13 rfl (fun _ => rfl) (fun c0 => ?_) (fun c0 => ?_)
  · refine dw_g rfl ?_
    refine dg_s (pc' := 29) [.int (-4 : Int32)] rfl (fun _ => rfl) rfl ?_
    exact dw_r (some (.inl (some (.int (-4 : Int32)), m))) rfl (fun _ => rfl) (kR _)
  · refine dw_g rfl ?_
    refine dg_s (pc' := 14) [.ref x0] rfl (fun _ => rfl) rfl ?_
    refine dg_s (pc' := 17) [.ref (x0 + 5)] rfl (fun _ => rfl) rfl ?_
    refine dg_s (pc' := 18) [.int x1, .ref (x0 + 5)] rfl (fun _ => rfl) rfl ?_
    refine dg_s (pc' := 20) [.int (16 : Int32), .int x1, .ref (x0 + 5)] rfl (fun _ => rfl) rfl ?_
    refine dg_s (pc' := 21) [.int (x1 * (16 : Int32)), .ref (x0 + 5)] rfl (fun _ => rfl) rfl ?_
    refine dg_s (pc' := 22) [.int x2, .int (x1 * (16 : Int32)), .ref (x0 + 5)] rfl (fun _ => rfl) rfl ?_
    refine dg_s (pc' := 23) [.int ((x1 * (16 : Int32)) + x2), .ref (x0 + 5)] rfl (fun _ => rfl) rfl ?_
    refine dg_s (pc' := 24) [.int (m.1 (x0 + 5) (Int32.toNatClampNeg ((x1 * (16 : Int32)) + x2)))] rfl (fun _ => rfl) rfl ?_
    refine dg_s (pc' := 29) [.int (m.1 (x0 + 5) (Int32.toNatClampNeg ((x1 * (16 : Int32)) + x2)))] rfl (fun _ => rfl) rfl ?_
    exact dw_r (some (.inl (some (.int (m.1 (x0 + 5) (Int32.toNatClampNeg ((x1 * (16 : Int32)) + x2)))), m))) rfl (fun _ => rfl) (kR _)
def H_X7_behind : dc_H := fun As m k => match As with
  | [.ref x0, .int x1, .int x2] => k (some (.int (d_X7_behind x0 x1 x2 m))) m
  | _ => dc_kz
theorem H_X7_behind_ok {u : Nat} : dc_cok u 84 H_X7_behind := fun M' hG N As m k P hz hP => by
  obtain rfl : ab_M_X7_behind = M' := Option.some.inj hG
  unfold H_X7_behind at hP
  split at hP
  · rename_i x0 x1 x2
    exact dc_pv.imp (k_X7_behind (Φ := fun (t : Int32) r m' => P (k (some (.int t)) m) → P (k r m')) x0 x1 x2 m (fun _  h => h) rfl rfl rfl) (fun r m' h => h hP)
  · exact absurd hP hz
noncomputable def C_X0_findTakenBack : List (Nat × dc_H) := [(5, H_X0_addTakenBack), (84, H_X7_behind)]
theorem CO_X0_findTakenBack {u : Nat} : dc_CO u C_X0_findTakenBack := dc_CO_cons H_X0_addTakenBack_ok (dc_CO_cons H_X7_behind_ok (dc_CO_nil))
def S_X0_findTakenBack : List (Nat × List Nat) := [(26, [0, 1, 2, 3, 4]), (38, [0, 1, 2, 3, 4, 5])]
noncomputable def d_X0_findTakenBack_l38b (x0 : Nat) (x1 : Nat) (x2 : Int32) (x3 : Nat) (x4 : Int32) (x5 : Int32) (m : dc_M) : Option ((Int32 × dc_M) ⊕ ((Int32 × dc_M) ⊕ dc_M)) :=
  (if (Int32.toInt (m.1 x1 1)) ≤ (Int32.toInt x5) then some (Sum.inr (Sum.inl ((x4 + (1 : Int32)), m))) else (if 0 ≤ (Int32.toInt (d_X7_behind x3 x4 x5 m)) then (if (Int32.toInt ((((m.1 (x3 + 4) (Int32.toNatClampNeg x4)) &&& ((m.1 (x3 + 4) (Int32.toNatClampNeg (d_X7_behind x3 x4 x5 m))) ^^^ (-1 : Int32))) &&& x2) &&& (((1 : Int32) <<< ((m.1 (x1 + 3) (Int32.toNatClampNeg x5)) &&& 31)) ^^^ (-1 : Int32)))) = 0 then some (Sum.inl ((x5 + (1 : Int32)), m)) else ((d_X0_addTakenBack x0 x1 ((((m.1 (x3 + 4) (Int32.toNatClampNeg x4)) &&& ((m.1 (x3 + 4) (Int32.toNatClampNeg (d_X7_behind x3 x4 x5 m))) ^^^ (-1 : Int32))) &&& x2) &&& (((1 : Int32) <<< ((m.1 (x1 + 3) (Int32.toNatClampNeg x5)) &&& 31)) ^^^ (-1 : Int32))) (m.1 (x3 + 2) (Int32.toNatClampNeg x4)) x4 x5 m).bind (fun q1 => some (Sum.inl ((x5 + (1 : Int32)), q1))))) else some (Sum.inl ((x5 + (1 : Int32)), m))))
noncomputable def d_X0_findTakenBack_l38s (x0 : Nat) (x1 : Nat) (x2 : Int32) (x3 : Nat) (x4 : Int32) : (Int32 × dc_M) → Option ((Int32 × dc_M) ⊕ ((Int32 × dc_M) ⊕ dc_M)) := fun s => d_X0_findTakenBack_l38b x0 x1 x2 x3 x4 s.1 s.2
noncomputable def d_X0_findTakenBack_l38 (x0 : Nat) (x1 : Nat) (x2 : Int32) (x3 : Nat) (x4 : Int32) (x5 : Int32) (m : dc_M) : Option ((Int32 × dc_M) ⊕ dc_M) := dc_lp (d_X0_findTakenBack_l38s x0 x1 x2 x3 x4) (x5, m)
set_option maxHeartbeats 8000000 in
theorem k_X0_findTakenBack_l38 {u : Nat} {Φ : (Option ((Int32 × dc_M) ⊕ dc_M)) → Option Value → dc_M → Prop} (x0 : Nat) (x1 : Nat) (x2 : Int32) (x3 : Nat) (x4 : Int32) (kR : ∀  (m : dc_M), Φ (some (Sum.inr (m))) (none) m) : ∀ (N : Nat), (∀ (x4 : Int32) (m : dc_M) (lv : ab_L), ab_lk lv 0 = some (.ref x0) → ab_lk lv 1 = some (.ref x1) → ab_lk lv 2 = some (.int x2) → ab_lk lv 3 = some (.ref x3) → ab_lk lv 4 = some (.int x4) →  dc_pv u N ab_M_X0_findTakenBack 26 lv [] m (Φ (some (Sum.inl (x4, m))))) → ∀ (x5 : Int32) (m : dc_M) (lv : ab_L), ab_lk lv 0 = some (.ref x0) → ab_lk lv 1 = some (.ref x1) → ab_lk lv 2 = some (.int x2) → ab_lk lv 3 = some (.ref x3) → ab_lk lv 4 = some (.int x4) → ab_lk lv 5 = some (.int x5) → dc_pv u N ab_M_X0_findTakenBack 38 lv [] m (Φ (d_X0_findTakenBack_l38 x0 x1 x2 x3 x4 x5 m)) := by
  intro N
  induction N with
  | zero => intros; exact dc_pv_zero
  | succ N ih =>
    intro k26 x5 m lv f0 f1 f2 f3 f4 f5
    have k26 := fun a0 a1 a2 a3 a4 a5 a6 a7 => (k26 a0 a1 a2 a3 a4 a5 a6 a7).mono (Nat.le_succ N)
    have ih := ih k26
    refine dc_ok (C := C_X0_findTakenBack) (S := S_X0_findTakenBack) CO_X0_findTakenBack 400 38 [(0, .ref x0), (1, .ref x1), (2, .int x2), (3, .ref x3), (4, .int x4), (5, .int x5)] lv [] m (dc_sub_cons f0 (dc_sub_cons f1 (dc_sub_cons f2 (dc_sub_cons f3 (dc_sub_cons f4 (dc_sub_cons f5 (dc_sub_nil))))))) ?_
    unfold d_X0_findTakenBack_l38
    rw [dc_lp_eq]
    show (fun t x => dc_lf u N ab_M_X0_findTakenBack (Φ (Option.bind t (dc_bk (d_X0_findTakenBack_l38s x0 x1 x2 x3 x4)))) x) (d_X0_findTakenBack_l38b x0 x1 x2 x3 x4 x5 m) _
    dsimp only
    unfold d_X0_findTakenBack_l38b
    refine dg_s (pc' := 40) [.int x5] rfl (fun _ => rfl) rfl ?_
    refine dg_s (pc' := 41) [.ref x1, .int x5] rfl (fun _ => rfl) rfl ?_
    refine dg_s (pc' := 44) [.int (m.1 x1 1), .int x5] rfl (fun _ => rfl) rfl ?_
    refine dw_if (fun t => Φ (Option.bind t (dc_bk (d_X0_findTakenBack_l38s x0 x1 x2 x3 x4)))) ((Int32.toInt (m.1 x1 1)) ≤ (Int32.toInt x5)) [] 127 47 rfl (fun _ => rfl) (fun c0 => ?_) (fun c0 => ?_)
    · refine dw_g rfl ?_
      refine dg_L (pc' := 130) [(4, .int (x4 + (1 : Int32))), (0, .ref x0), (1, .ref x1), (2, .int x2), (3, .ref x3), (5, .int x5)] [] rfl (fun _ => rfl) rfl ?_
      refine dw_s (pc' := 26) [] rfl (fun _ => rfl) ?_
      exact dw_j rfl (fun lv1 hv => k26 (x4 + (1 : Int32)) m lv1 (hv.1 _ rfl) (hv.2.1 _ rfl) (hv.2.2.1 _ rfl) (hv.2.2.2.1 _ rfl) (hv.2.2.2.2.1 _ rfl))
    · refine dw_g rfl ?_
      refine dg_s (pc' := 48) [.ref x3] rfl (fun _ => rfl) rfl ?_
      refine dg_s (pc' := 50) [.int x4, .ref x3] rfl (fun _ => rfl) rfl ?_
      refine dg_s (pc' := 52) [.int x5, .int x4, .ref x3] rfl (fun _ => rfl) rfl ?_
      refine dg_s (pc' := 55) [.int (d_X7_behind x3 x4 x5 m)] rfl (fun _ => rfl) rfl ?_
      refine dg_L (pc' := 57) [(6, .int (d_X7_behind x3 x4 x5 m)), (0, .ref x0), (1, .ref x1), (2, .int x2), (3, .ref x3), (4, .int x4), (5, .int x5)] [] rfl (fun _ => rfl) rfl ?_
      refine dg_s (pc' := 59) [.int (d_X7_behind x3 x4 x5 m)] rfl (fun _ => rfl) rfl ?_
      refine dw_if (fun t => Φ (Option.bind t (dc_bk (d_X0_findTakenBack_l38s x0 x1 x2 x3 x4)))) (0 ≤ (Int32.toInt (d_X7_behind x3 x4 x5 m))) [] 65 62 rfl (fun _ => rfl) (fun c1 => ?_) (fun c1 => ?_)
      · refine dw_g rfl ?_
        refine dg_s (pc' := 66) [.ref x3] rfl (fun _ => rfl) rfl ?_
        refine dg_s (pc' := 69) [.ref (x3 + 4)] rfl (fun _ => rfl) rfl ?_
        refine dg_s (pc' := 71) [.int x4, .ref (x3 + 4)] rfl (fun _ => rfl) rfl ?_
        refine dg_s (pc' := 72) [.int (m.1 (x3 + 4) (Int32.toNatClampNeg x4))] rfl (fun _ => rfl) rfl ?_
        refine dg_s (pc' := 73) [.ref x3, .int (m.1 (x3 + 4) (Int32.toNatClampNeg x4))] rfl (fun _ => rfl) rfl ?_
        refine dg_s (pc' := 76) [.ref (x3 + 4), .int (m.1 (x3 + 4) (Int32.toNatClampNeg x4))] rfl (fun _ => rfl) rfl ?_
        refine dg_s (pc' := 78) [.int (d_X7_behind x3 x4 x5 m), .ref (x3 + 4), .int (m.1 (x3 + 4) (Int32.toNatClampNeg x4))] rfl (fun _ => rfl) rfl ?_
        refine dg_s (pc' := 79) [.int (m.1 (x3 + 4) (Int32.toNatClampNeg (d_X7_behind x3 x4 x5 m))), .int (m.1 (x3 + 4) (Int32.toNatClampNeg x4))] rfl (fun _ => rfl) rfl ?_
        refine dg_s (pc' := 80) [.int (-1 : Int32), .int (m.1 (x3 + 4) (Int32.toNatClampNeg (d_X7_behind x3 x4 x5 m))), .int (m.1 (x3 + 4) (Int32.toNatClampNeg x4))] rfl (fun _ => rfl) rfl ?_
        refine dg_s (pc' := 81) [.int ((m.1 (x3 + 4) (Int32.toNatClampNeg (d_X7_behind x3 x4 x5 m))) ^^^ (-1 : Int32)), .int (m.1 (x3 + 4) (Int32.toNatClampNeg x4))] rfl (fun _ => rfl) rfl ?_
        refine dg_s (pc' := 82) [.int ((m.1 (x3 + 4) (Int32.toNatClampNeg x4)) &&& ((m.1 (x3 + 4) (Int32.toNatClampNeg (d_X7_behind x3 x4 x5 m))) ^^^ (-1 : Int32)))] rfl (fun _ => rfl) rfl ?_
        refine dg_s (pc' := 83) [.int x2, .int ((m.1 (x3 + 4) (Int32.toNatClampNeg x4)) &&& ((m.1 (x3 + 4) (Int32.toNatClampNeg (d_X7_behind x3 x4 x5 m))) ^^^ (-1 : Int32)))] rfl (fun _ => rfl) rfl ?_
        refine dg_s (pc' := 84) [.int (((m.1 (x3 + 4) (Int32.toNatClampNeg x4)) &&& ((m.1 (x3 + 4) (Int32.toNatClampNeg (d_X7_behind x3 x4 x5 m))) ^^^ (-1 : Int32))) &&& x2)] rfl (fun _ => rfl) rfl ?_
        refine dg_s (pc' := 85) [.int (1 : Int32), .int (((m.1 (x3 + 4) (Int32.toNatClampNeg x4)) &&& ((m.1 (x3 + 4) (Int32.toNatClampNeg (d_X7_behind x3 x4 x5 m))) ^^^ (-1 : Int32))) &&& x2)] rfl (fun _ => rfl) rfl ?_
        refine dg_s (pc' := 86) [.ref x1, .int (1 : Int32), .int (((m.1 (x3 + 4) (Int32.toNatClampNeg x4)) &&& ((m.1 (x3 + 4) (Int32.toNatClampNeg (d_X7_behind x3 x4 x5 m))) ^^^ (-1 : Int32))) &&& x2)] rfl (fun _ => rfl) rfl ?_
        refine dg_s (pc' := 89) [.ref (x1 + 3), .int (1 : Int32), .int (((m.1 (x3 + 4) (Int32.toNatClampNeg x4)) &&& ((m.1 (x3 + 4) (Int32.toNatClampNeg (d_X7_behind x3 x4 x5 m))) ^^^ (-1 : Int32))) &&& x2)] rfl (fun _ => rfl) rfl ?_
        refine dg_s (pc' := 91) [.int x5, .ref (x1 + 3), .int (1 : Int32), .int (((m.1 (x3 + 4) (Int32.toNatClampNeg x4)) &&& ((m.1 (x3 + 4) (Int32.toNatClampNeg (d_X7_behind x3 x4 x5 m))) ^^^ (-1 : Int32))) &&& x2)] rfl (fun _ => rfl) rfl ?_
        refine dg_s (pc' := 92) [.int (m.1 (x1 + 3) (Int32.toNatClampNeg x5)), .int (1 : Int32), .int (((m.1 (x3 + 4) (Int32.toNatClampNeg x4)) &&& ((m.1 (x3 + 4) (Int32.toNatClampNeg (d_X7_behind x3 x4 x5 m))) ^^^ (-1 : Int32))) &&& x2)] rfl (fun _ => rfl) rfl ?_
        refine dg_s (pc' := 93) [.int ((1 : Int32) <<< ((m.1 (x1 + 3) (Int32.toNatClampNeg x5)) &&& 31)), .int (((m.1 (x3 + 4) (Int32.toNatClampNeg x4)) &&& ((m.1 (x3 + 4) (Int32.toNatClampNeg (d_X7_behind x3 x4 x5 m))) ^^^ (-1 : Int32))) &&& x2)] rfl (fun _ => rfl) rfl ?_
        refine dg_s (pc' := 94) [.int (-1 : Int32), .int ((1 : Int32) <<< ((m.1 (x1 + 3) (Int32.toNatClampNeg x5)) &&& 31)), .int (((m.1 (x3 + 4) (Int32.toNatClampNeg x4)) &&& ((m.1 (x3 + 4) (Int32.toNatClampNeg (d_X7_behind x3 x4 x5 m))) ^^^ (-1 : Int32))) &&& x2)] rfl (fun _ => rfl) rfl ?_
        refine dg_s (pc' := 95) [.int (((1 : Int32) <<< ((m.1 (x1 + 3) (Int32.toNatClampNeg x5)) &&& 31)) ^^^ (-1 : Int32)), .int (((m.1 (x3 + 4) (Int32.toNatClampNeg x4)) &&& ((m.1 (x3 + 4) (Int32.toNatClampNeg (d_X7_behind x3 x4 x5 m))) ^^^ (-1 : Int32))) &&& x2)] rfl (fun _ => rfl) rfl ?_
        refine dg_s (pc' := 96) [.int ((((m.1 (x3 + 4) (Int32.toNatClampNeg x4)) &&& ((m.1 (x3 + 4) (Int32.toNatClampNeg (d_X7_behind x3 x4 x5 m))) ^^^ (-1 : Int32))) &&& x2) &&& (((1 : Int32) <<< ((m.1 (x1 + 3) (Int32.toNatClampNeg x5)) &&& 31)) ^^^ (-1 : Int32)))] rfl (fun _ => rfl) rfl ?_
        refine dg_L (pc' := 98) [(7, .int ((((m.1 (x3 + 4) (Int32.toNatClampNeg x4)) &&& ((m.1 (x3 + 4) (Int32.toNatClampNeg (d_X7_behind x3 x4 x5 m))) ^^^ (-1 : Int32))) &&& x2) &&& (((1 : Int32) <<< ((m.1 (x1 + 3) (Int32.toNatClampNeg x5)) &&& 31)) ^^^ (-1 : Int32)))), (6, .int (d_X7_behind x3 x4 x5 m)), (0, .ref x0), (1, .ref x1), (2, .int x2), (3, .ref x3), (4, .int x4), (5, .int x5)] [] rfl (fun _ => rfl) rfl ?_
        refine dg_s (pc' := 100) [.int ((((m.1 (x3 + 4) (Int32.toNatClampNeg x4)) &&& ((m.1 (x3 + 4) (Int32.toNatClampNeg (d_X7_behind x3 x4 x5 m))) ^^^ (-1 : Int32))) &&& x2) &&& (((1 : Int32) <<< ((m.1 (x1 + 3) (Int32.toNatClampNeg x5)) &&& 31)) ^^^ (-1 : Int32)))] rfl (fun _ => rfl) rfl ?_
        refine dw_if (fun t => Φ (Option.bind t (dc_bk (d_X0_findTakenBack_l38s x0 x1 x2 x3 x4)))) ((Int32.toInt ((((m.1 (x3 + 4) (Int32.toNatClampNeg x4)) &&& ((m.1 (x3 + 4) (Int32.toNatClampNeg (d_X7_behind x3 x4 x5 m))) ^^^ (-1 : Int32))) &&& x2) &&& (((1 : Int32) <<< ((m.1 (x1 + 3) (Int32.toNatClampNeg x5)) &&& 31)) ^^^ (-1 : Int32)))) = 0) [] 121 103 rfl (fun _ => rfl) (fun c2 => ?_) (fun c2 => ?_)
        · refine dw_g rfl ?_
          refine dg_L (pc' := 124) [(5, .int (x5 + (1 : Int32))), (7, .int ((((m.1 (x3 + 4) (Int32.toNatClampNeg x4)) &&& ((m.1 (x3 + 4) (Int32.toNatClampNeg (d_X7_behind x3 x4 x5 m))) ^^^ (-1 : Int32))) &&& x2) &&& (((1 : Int32) <<< ((m.1 (x1 + 3) (Int32.toNatClampNeg x5)) &&& 31)) ^^^ (-1 : Int32)))), (6, .int (d_X7_behind x3 x4 x5 m)), (0, .ref x0), (1, .ref x1), (2, .int x2), (3, .ref x3), (4, .int x4)] [] rfl (fun _ => rfl) rfl ?_
          refine dw_s (pc' := 38) [] rfl (fun _ => rfl) ?_
          exact dw_j rfl (fun lv1 hv => ih (x5 + (1 : Int32)) m lv1 (hv.1 _ rfl) (hv.2.1 _ rfl) (hv.2.2.1 _ rfl) (hv.2.2.2.1 _ rfl) (hv.2.2.2.2.1 _ rfl) (hv.2.2.2.2.2.1 _ rfl))
        · refine dw_g rfl ?_
          refine dg_s (pc' := 104) [.ref x0] rfl (fun _ => rfl) rfl ?_
          refine dg_s (pc' := 105) [.ref x1, .ref x0] rfl (fun _ => rfl) rfl ?_
          refine dg_s (pc' := 107) [.int ((((m.1 (x3 + 4) (Int32.toNatClampNeg x4)) &&& ((m.1 (x3 + 4) (Int32.toNatClampNeg (d_X7_behind x3 x4 x5 m))) ^^^ (-1 : Int32))) &&& x2) &&& (((1 : Int32) <<< ((m.1 (x1 + 3) (Int32.toNatClampNeg x5)) &&& 31)) ^^^ (-1 : Int32))), .ref x1, .ref x0] rfl (fun _ => rfl) rfl ?_
          refine dg_s (pc' := 108) [.ref x3, .int ((((m.1 (x3 + 4) (Int32.toNatClampNeg x4)) &&& ((m.1 (x3 + 4) (Int32.toNatClampNeg (d_X7_behind x3 x4 x5 m))) ^^^ (-1 : Int32))) &&& x2) &&& (((1 : Int32) <<< ((m.1 (x1 + 3) (Int32.toNatClampNeg x5)) &&& 31)) ^^^ (-1 : Int32))), .ref x1, .ref x0] rfl (fun _ => rfl) rfl ?_
          refine dg_s (pc' := 111) [.ref (x3 + 2), .int ((((m.1 (x3 + 4) (Int32.toNatClampNeg x4)) &&& ((m.1 (x3 + 4) (Int32.toNatClampNeg (d_X7_behind x3 x4 x5 m))) ^^^ (-1 : Int32))) &&& x2) &&& (((1 : Int32) <<< ((m.1 (x1 + 3) (Int32.toNatClampNeg x5)) &&& 31)) ^^^ (-1 : Int32))), .ref x1, .ref x0] rfl (fun _ => rfl) rfl ?_
          refine dg_s (pc' := 113) [.int x4, .ref (x3 + 2), .int ((((m.1 (x3 + 4) (Int32.toNatClampNeg x4)) &&& ((m.1 (x3 + 4) (Int32.toNatClampNeg (d_X7_behind x3 x4 x5 m))) ^^^ (-1 : Int32))) &&& x2) &&& (((1 : Int32) <<< ((m.1 (x1 + 3) (Int32.toNatClampNeg x5)) &&& 31)) ^^^ (-1 : Int32))), .ref x1, .ref x0] rfl (fun _ => rfl) rfl ?_
          refine dg_s (pc' := 114) [.int (m.1 (x3 + 2) (Int32.toNatClampNeg x4)), .int ((((m.1 (x3 + 4) (Int32.toNatClampNeg x4)) &&& ((m.1 (x3 + 4) (Int32.toNatClampNeg (d_X7_behind x3 x4 x5 m))) ^^^ (-1 : Int32))) &&& x2) &&& (((1 : Int32) <<< ((m.1 (x1 + 3) (Int32.toNatClampNeg x5)) &&& 31)) ^^^ (-1 : Int32))), .ref x1, .ref x0] rfl (fun _ => rfl) rfl ?_
          refine dg_s (pc' := 116) [.int x4, .int (m.1 (x3 + 2) (Int32.toNatClampNeg x4)), .int ((((m.1 (x3 + 4) (Int32.toNatClampNeg x4)) &&& ((m.1 (x3 + 4) (Int32.toNatClampNeg (d_X7_behind x3 x4 x5 m))) ^^^ (-1 : Int32))) &&& x2) &&& (((1 : Int32) <<< ((m.1 (x1 + 3) (Int32.toNatClampNeg x5)) &&& 31)) ^^^ (-1 : Int32))), .ref x1, .ref x0] rfl (fun _ => rfl) rfl ?_
          refine dg_s (pc' := 118) [.int x5, .int x4, .int (m.1 (x3 + 2) (Int32.toNatClampNeg x4)), .int ((((m.1 (x3 + 4) (Int32.toNatClampNeg x4)) &&& ((m.1 (x3 + 4) (Int32.toNatClampNeg (d_X7_behind x3 x4 x5 m))) ^^^ (-1 : Int32))) &&& x2) &&& (((1 : Int32) <<< ((m.1 (x1 + 3) (Int32.toNatClampNeg x5)) &&& 31)) ^^^ (-1 : Int32))), .ref x1, .ref x0] rfl (fun _ => rfl) rfl ?_
          refine dw_b (fun t => Φ (Option.bind t (dc_bk (d_X0_findTakenBack_l38s x0 x1 x2 x3 x4)))) (pc' := 121) (fun q1 => []) (fun q1 => q1) rfl (fun _ => rfl) (fun q1 => ?_)
          refine dw_g rfl ?_
          refine dg_L (pc' := 124) [(5, .int (x5 + (1 : Int32))), (7, .int ((((m.1 (x3 + 4) (Int32.toNatClampNeg x4)) &&& ((m.1 (x3 + 4) (Int32.toNatClampNeg (d_X7_behind x3 x4 x5 m))) ^^^ (-1 : Int32))) &&& x2) &&& (((1 : Int32) <<< ((m.1 (x1 + 3) (Int32.toNatClampNeg x5)) &&& 31)) ^^^ (-1 : Int32)))), (6, .int (d_X7_behind x3 x4 x5 m)), (0, .ref x0), (1, .ref x1), (2, .int x2), (3, .ref x3), (4, .int x4)] [] rfl (fun _ => rfl) rfl ?_
          refine dw_s (pc' := 38) [] rfl (fun _ => rfl) ?_
          exact dw_j rfl (fun lv1 hv => ih (x5 + (1 : Int32)) q1 lv1 (hv.1 _ rfl) (hv.2.1 _ rfl) (hv.2.2.1 _ rfl) (hv.2.2.2.1 _ rfl) (hv.2.2.2.2.1 _ rfl) (hv.2.2.2.2.2.1 _ rfl))
      · refine dw_g rfl ?_
        refine dg_s (pc' := 121) [] rfl (fun _ => rfl) rfl ?_
        refine dg_L (pc' := 124) [(5, .int (x5 + (1 : Int32))), (6, .int (d_X7_behind x3 x4 x5 m)), (0, .ref x0), (1, .ref x1), (2, .int x2), (3, .ref x3), (4, .int x4)] [] rfl (fun _ => rfl) rfl ?_
        refine dw_s (pc' := 38) [] rfl (fun _ => rfl) ?_
        exact dw_j rfl (fun lv1 hv => ih (x5 + (1 : Int32)) m lv1 (hv.1 _ rfl) (hv.2.1 _ rfl) (hv.2.2.1 _ rfl) (hv.2.2.2.1 _ rfl) (hv.2.2.2.2.1 _ rfl) (hv.2.2.2.2.2.1 _ rfl))
noncomputable def d_X0_findTakenBack_l26b (x0 : Nat) (x1 : Nat) (x2 : Int32) (x3 : Nat) (x4 : Int32) (m : dc_M) : Option ((Int32 × dc_M) ⊕ dc_M) :=
  (if (Int32.toInt (m.1 x3 0)) ≤ (Int32.toInt x4) then some (Sum.inr (m)) else (d_X0_findTakenBack_l38 x0 x1 x2 x3 x4 (0 : Int32) m))
noncomputable def d_X0_findTakenBack_l26s (x0 : Nat) (x1 : Nat) (x2 : Int32) (x3 : Nat) : (Int32 × dc_M) → Option ((Int32 × dc_M) ⊕ dc_M) := fun s => d_X0_findTakenBack_l26b x0 x1 x2 x3 s.1 s.2
noncomputable def d_X0_findTakenBack_l26 (x0 : Nat) (x1 : Nat) (x2 : Int32) (x3 : Nat) (x4 : Int32) (m : dc_M) : Option dc_M := dc_lp (d_X0_findTakenBack_l26s x0 x1 x2 x3) (x4, m)
set_option maxHeartbeats 8000000 in
theorem k_X0_findTakenBack_l26 {u : Nat} {Φ : (Option dc_M) → Option Value → dc_M → Prop} (x0 : Nat) (x1 : Nat) (x2 : Int32) (x3 : Nat) (kR : ∀  (m : dc_M), Φ (some (m)) (none) m) : ∀ (N : Nat), ∀ (x4 : Int32) (m : dc_M) (lv : ab_L), ab_lk lv 0 = some (.ref x0) → ab_lk lv 1 = some (.ref x1) → ab_lk lv 2 = some (.int x2) → ab_lk lv 3 = some (.ref x3) → ab_lk lv 4 = some (.int x4) → dc_pv u N ab_M_X0_findTakenBack 26 lv [] m (Φ (d_X0_findTakenBack_l26 x0 x1 x2 x3 x4 m)) := by
  intro N
  induction N with
  | zero => intros; exact dc_pv_zero
  | succ N ih =>
    intro x4 m lv f0 f1 f2 f3 f4
    refine dc_ok (C := C_X0_findTakenBack) (S := S_X0_findTakenBack) CO_X0_findTakenBack 400 26 [(0, .ref x0), (1, .ref x1), (2, .int x2), (3, .ref x3), (4, .int x4)] lv [] m (dc_sub_cons f0 (dc_sub_cons f1 (dc_sub_cons f2 (dc_sub_cons f3 (dc_sub_cons f4 (dc_sub_nil)))))) ?_
    unfold d_X0_findTakenBack_l26
    rw [dc_lp_eq]
    show (fun t x => dc_lf u N ab_M_X0_findTakenBack (Φ (Option.bind t (dc_bk (d_X0_findTakenBack_l26s x0 x1 x2 x3)))) x) (d_X0_findTakenBack_l26b x0 x1 x2 x3 x4 m) _
    dsimp only
    unfold d_X0_findTakenBack_l26b
    refine dg_s (pc' := 28) [.int x4] rfl (fun _ => rfl) rfl ?_
    refine dg_s (pc' := 29) [.ref x3, .int x4] rfl (fun _ => rfl) rfl ?_
    refine dg_s (pc' := 32) [.int (m.1 x3 0), .int x4] rfl (fun _ => rfl) rfl ?_
    refine dw_if (fun t => Φ (Option.bind t (dc_bk (d_X0_findTakenBack_l26s x0 x1 x2 x3)))) ((Int32.toInt (m.1 x3 0)) ≤ (Int32.toInt x4)) [] 133 35 rfl (fun _ => rfl) (fun c0 => ?_) (fun c0 => ?_)
    · refine dw_g rfl ?_
      exact dw_r (some (.inl (none, m))) rfl (fun _ => rfl) (kR _)
    · refine dw_g rfl ?_
      refine dg_s (pc' := 36) [.int (0 : Int32)] rfl (fun _ => rfl) rfl ?_
      refine dw_L (pc' := 38) [(5, .int (0 : Int32)), (0, .ref x0), (1, .ref x1), (2, .int x2), (3, .ref x3), (4, .int x4)] [] rfl (fun _ => rfl) ?_
      exact dw_j rfl (fun lv1 hv => k_X0_findTakenBack_l38 (Φ := (fun t => Φ (Option.bind t (dc_bk (d_X0_findTakenBack_l26s x0 x1 x2 x3))))) x0 x1 x2 x3 x4 (fun _b => kR _b) N ih (0 : Int32) m lv1 (hv.1 _ rfl) (hv.2.1 _ rfl) (hv.2.2.1 _ rfl) (hv.2.2.2.1 _ rfl) (hv.2.2.2.2.1 _ rfl) (hv.2.2.2.2.2.1 _ rfl))
noncomputable def d_X0_findTakenBack (x0 : Nat) (x1 : Nat) (x2 : Int32) (x3 : Nat) (m : dc_M) : Option dc_M :=
  (d_X0_findTakenBack_l26 x0 x1 x2 x3 (0 : Int32) (dc_wi (dc_wi (dc_wi (dc_wi m x0 4 (0 : Int32)) x0 5 (-4 : Int32)) x0 6 (-4 : Int32)) x0 7 (-4 : Int32)))
set_option maxHeartbeats 8000000 in
theorem k_X0_findTakenBack {u : Nat} {N : Nat} {Φ : (Option dc_M) → Option Value → dc_M → Prop} (x0 : Nat) (x1 : Nat) (x2 : Int32) (x3 : Nat) (m : dc_M) (kR : ∀  (m : dc_M), Φ (some (m)) (none) m)  {lv : ab_L} (f0 : ab_lk lv 0 = some (.ref x0)) (f1 : ab_lk lv 1 = some (.ref x1)) (f2 : ab_lk lv 2 = some (.int x2)) (f3 : ab_lk lv 3 = some (.ref x3)) : dc_pv u N ab_M_X0_findTakenBack 0 lv [] m (Φ (d_X0_findTakenBack x0 x1 x2 x3 m)) := by
  refine dc_pv.mono (dc_ok (C := C_X0_findTakenBack) (S := S_X0_findTakenBack) CO_X0_findTakenBack 400 0 [(0, .ref x0), (1, .ref x1), (2, .int x2), (3, .ref x3)] lv [] m (dc_sub_cons f0 (dc_sub_cons f1 (dc_sub_cons f2 (dc_sub_cons f3 (dc_sub_nil))))) ?_) (Nat.le_succ N)
  unfold d_X0_findTakenBack
  refine dg_s (pc' := 1) [.ref x0] rfl (fun _ => rfl) rfl ?_
  refine dg_s (pc' := 2) [.int (0 : Int32), .ref x0] rfl (fun _ => rfl) rfl ?_
  refine dg_m (pc' := 5) (dc_wi m x0 4 (0 : Int32)) [] rfl (fun _ => rfl) rfl ?_
  refine dg_s (pc' := 6) [.ref x0] rfl (fun _ => rfl) rfl ?_
  refine dg_s (pc' := 8) [.int (-4 : Int32), .ref x0] rfl (fun _ => rfl) rfl ?_
  refine dg_m (pc' := 11) (dc_wi (dc_wi m x0 4 (0 : Int32)) x0 5 (-4 : Int32)) [] rfl (fun _ => rfl) rfl ?_
  refine dg_s (pc' := 12) [.ref x0] rfl (fun _ => rfl) rfl ?_
  refine dg_s (pc' := 14) [.int (-4 : Int32), .ref x0] rfl (fun _ => rfl) rfl ?_
  refine dg_m (pc' := 17) (dc_wi (dc_wi (dc_wi m x0 4 (0 : Int32)) x0 5 (-4 : Int32)) x0 6 (-4 : Int32)) [] rfl (fun _ => rfl) rfl ?_
  refine dg_s (pc' := 18) [.ref x0] rfl (fun _ => rfl) rfl ?_
  refine dg_s (pc' := 20) [.int (-4 : Int32), .ref x0] rfl (fun _ => rfl) rfl ?_
  refine dg_m (pc' := 23) (dc_wi (dc_wi (dc_wi (dc_wi m x0 4 (0 : Int32)) x0 5 (-4 : Int32)) x0 6 (-4 : Int32)) x0 7 (-4 : Int32)) [] rfl (fun _ => rfl) rfl ?_
  refine dg_s (pc' := 24) [.int (0 : Int32)] rfl (fun _ => rfl) rfl ?_
  refine dw_L (pc' := 26) [(4, .int (0 : Int32)), (0, .ref x0), (1, .ref x1), (2, .int x2), (3, .ref x3)] [] rfl (fun _ => rfl) ?_
  exact dw_j rfl (fun lv1 hv => k_X0_findTakenBack_l26 (Φ := (fun t => Φ t)) x0 x1 x2 x3 (fun _b => kR _b) N  (0 : Int32) (dc_wi (dc_wi (dc_wi (dc_wi m x0 4 (0 : Int32)) x0 5 (-4 : Int32)) x0 6 (-4 : Int32)) x0 7 (-4 : Int32)) lv1 (hv.1 _ rfl) (hv.2.1 _ rfl) (hv.2.2.1 _ rfl) (hv.2.2.2.1 _ rfl) (hv.2.2.2.2.1 _ rfl))
noncomputable def H_X0_findTakenBack : dc_H := fun As m k => match As with
  | [.ref x0, .ref x1, .int x2, .ref x3] => (d_X0_findTakenBack x0 x1 x2 x3 m).bind (fun q => k (none) q)
  | _ => dc_kz
theorem H_X0_findTakenBack_ok {u : Nat} : dc_cok u 4 H_X0_findTakenBack := fun M' hG N As m k P hz hP => by
  obtain rfl : ab_M_X0_findTakenBack = M' := Option.some.inj hG
  unfold H_X0_findTakenBack at hP
  split at hP
  · rename_i x0 x1 x2 x3
    exact dc_pv.imp (k_X0_findTakenBack (Φ := fun (t : Option dc_M) r m' => P (t.bind (fun q => k (none) q)) → P (k r m')) x0 x1 x2 x3 m (fun _ h => h) rfl rfl rfl rfl) (fun r m' h => h hP)
  · exact absurd hP hz
def C_X3_madeWires : List (Nat × dc_H) := []
theorem CO_X3_madeWires {u : Nat} : dc_CO u C_X3_madeWires := dc_CO_nil
def S_X3_madeWires : List (Nat × List Nat) := [(4, [0, 1, 2])]
noncomputable def d_X3_madeWires_l4b (x0 : Nat) (x1 : Int32) (x2 : Int32) (m : dc_M) : Option ((Int32 × Int32) ⊕ Int32) :=
  (if (Int32.toInt (m.1 x0 0)) ≤ (Int32.toInt x2) then some (Sum.inr (x1)) else (if (Int32.toInt (m.1 (x0 + 2) (Int32.toNatClampNeg x2))) = 0 then some (Sum.inl (x1, (x2 + (1 : Int32)))) else some (Sum.inl ((x1 ||| ((1 : Int32) <<< (x2 &&& 31))), (x2 + (1 : Int32))))))
noncomputable def d_X3_madeWires_l4s (x0 : Nat) (m : dc_M) : (Int32 × Int32) → Option ((Int32 × Int32) ⊕ Int32) := fun s => d_X3_madeWires_l4b x0 s.1 s.2 m
noncomputable def d_X3_madeWires_l4 (x0 : Nat) (x1 : Int32) (x2 : Int32) (m : dc_M) : Option Int32 := dc_lp (d_X3_madeWires_l4s x0 m) (x1, x2)
set_option maxHeartbeats 8000000 in
theorem k_X3_madeWires_l4 {u : Nat} {Φ : (Option Int32) → Option Value → dc_M → Prop} (x0 : Nat) (m : dc_M) (kR : ∀ (v : Int32), Φ (some (v)) (some (.int v)) m) : ∀ (N : Nat), ∀ (x1 : Int32) (x2 : Int32) (lv : ab_L), ab_lk lv 0 = some (.ref x0) → ab_lk lv 1 = some (.int x1) → ab_lk lv 2 = some (.int x2) → dc_pv u N ab_M_X3_madeWires 4 lv [] m (Φ (d_X3_madeWires_l4 x0 x1 x2 m)) := by
  intro N
  induction N with
  | zero => intros; exact dc_pv_zero
  | succ N ih =>
    intro x1 x2 lv f0 f1 f2
    refine dc_ok (C := C_X3_madeWires) (S := S_X3_madeWires) CO_X3_madeWires 400 4 [(0, .ref x0), (1, .int x1), (2, .int x2)] lv [] m (dc_sub_cons f0 (dc_sub_cons f1 (dc_sub_cons f2 (dc_sub_nil)))) ?_
    unfold d_X3_madeWires_l4
    rw [dc_lp_eq]
    show (fun t x => dc_lf u N ab_M_X3_madeWires (Φ (Option.bind t (dc_bk (d_X3_madeWires_l4s x0 m)))) x) (d_X3_madeWires_l4b x0 x1 x2 m) _
    dsimp only
    unfold d_X3_madeWires_l4b
    refine dg_s (pc' := 5) [.int x2] rfl (fun _ => rfl) rfl ?_
    refine dg_s (pc' := 6) [.ref x0, .int x2] rfl (fun _ => rfl) rfl ?_
    refine dg_s (pc' := 9) [.int (m.1 x0 0), .int x2] rfl (fun _ => rfl) rfl ?_
    refine dw_if (fun t => Φ (Option.bind t (dc_bk (d_X3_madeWires_l4s x0 m)))) ((Int32.toInt (m.1 x0 0)) ≤ (Int32.toInt x2)) [] 33 12 rfl (fun _ => rfl) (fun c0 => ?_) (fun c0 => ?_)
    · refine dw_g rfl ?_
      refine dg_s (pc' := 34) [.int x1] rfl (fun _ => rfl) rfl ?_
      exact dw_r (some (.inl (some (.int x1), m))) rfl (fun _ => rfl) (kR _)
    · refine dw_g rfl ?_
      refine dg_s (pc' := 13) [.ref x0] rfl (fun _ => rfl) rfl ?_
      refine dg_s (pc' := 16) [.ref (x0 + 2)] rfl (fun _ => rfl) rfl ?_
      refine dg_s (pc' := 17) [.int x2, .ref (x0 + 2)] rfl (fun _ => rfl) rfl ?_
      refine dg_s (pc' := 18) [.int (m.1 (x0 + 2) (Int32.toNatClampNeg x2))] rfl (fun _ => rfl) rfl ?_
      refine dw_if (fun t => Φ (Option.bind t (dc_bk (d_X3_madeWires_l4s x0 m)))) ((Int32.toInt (m.1 (x0 + 2) (Int32.toNatClampNeg x2))) = 0) [] 27 21 rfl (fun _ => rfl) (fun c1 => ?_) (fun c1 => ?_)
      · refine dw_g rfl ?_
        refine dg_L (pc' := 30) [(2, .int (x2 + (1 : Int32))), (0, .ref x0), (1, .int x1)] [] rfl (fun _ => rfl) rfl ?_
        refine dw_s (pc' := 4) [] rfl (fun _ => rfl) ?_
        exact dw_j rfl (fun lv1 hv => ih x1 (x2 + (1 : Int32)) lv1 (hv.1 _ rfl) (hv.2.1 _ rfl) (hv.2.2.1 _ rfl))
      · refine dw_g rfl ?_
        refine dg_s (pc' := 22) [.int x1] rfl (fun _ => rfl) rfl ?_
        refine dg_s (pc' := 23) [.int (1 : Int32), .int x1] rfl (fun _ => rfl) rfl ?_
        refine dg_s (pc' := 24) [.int x2, .int (1 : Int32), .int x1] rfl (fun _ => rfl) rfl ?_
        refine dg_s (pc' := 25) [.int ((1 : Int32) <<< (x2 &&& 31)), .int x1] rfl (fun _ => rfl) rfl ?_
        refine dg_s (pc' := 26) [.int (x1 ||| ((1 : Int32) <<< (x2 &&& 31)))] rfl (fun _ => rfl) rfl ?_
        refine dg_L (pc' := 27) [(1, .int (x1 ||| ((1 : Int32) <<< (x2 &&& 31)))), (0, .ref x0), (2, .int x2)] [] rfl (fun _ => rfl) rfl ?_
        refine dg_L (pc' := 30) [(2, .int (x2 + (1 : Int32))), (1, .int (x1 ||| ((1 : Int32) <<< (x2 &&& 31)))), (0, .ref x0)] [] rfl (fun _ => rfl) rfl ?_
        refine dw_s (pc' := 4) [] rfl (fun _ => rfl) ?_
        exact dw_j rfl (fun lv1 hv => ih (x1 ||| ((1 : Int32) <<< (x2 &&& 31))) (x2 + (1 : Int32)) lv1 (hv.1 _ rfl) (hv.2.1 _ rfl) (hv.2.2.1 _ rfl))
noncomputable def d_X3_madeWires (x0 : Nat) (m : dc_M) : Option Int32 :=
  (d_X3_madeWires_l4 x0 (0 : Int32) (0 : Int32) m)
set_option maxHeartbeats 8000000 in
theorem k_X3_madeWires {u : Nat} {N : Nat} {Φ : (Option Int32) → Option Value → dc_M → Prop} (x0 : Nat) (m : dc_M) (kR : ∀ (v : Int32), Φ (some (v)) (some (.int v)) m)  {lv : ab_L} (f0 : ab_lk lv 0 = some (.ref x0)) : dc_pv u N ab_M_X3_madeWires 0 lv [] m (Φ (d_X3_madeWires x0 m)) := by
  refine dc_pv.mono (dc_ok (C := C_X3_madeWires) (S := S_X3_madeWires) CO_X3_madeWires 400 0 [(0, .ref x0)] lv [] m (dc_sub_cons f0 (dc_sub_nil)) ?_) (Nat.le_succ N)
  unfold d_X3_madeWires
  refine dg_s (pc' := 1) [.int (0 : Int32)] rfl (fun _ => rfl) rfl ?_
  refine dg_L (pc' := 2) [(1, .int (0 : Int32)), (0, .ref x0)] [] rfl (fun _ => rfl) rfl ?_
  refine dg_s (pc' := 3) [.int (0 : Int32)] rfl (fun _ => rfl) rfl ?_
  refine dw_L (pc' := 4) [(2, .int (0 : Int32)), (1, .int (0 : Int32)), (0, .ref x0)] [] rfl (fun _ => rfl) ?_
  exact dw_j rfl (fun lv1 hv => k_X3_madeWires_l4 (Φ := (fun t => Φ t)) x0 m (fun _a  => kR _a) N  (0 : Int32) (0 : Int32) lv1 (hv.1 _ rfl) (hv.2.1 _ rfl) (hv.2.2.1 _ rfl))
noncomputable def H_X3_madeWires : dc_H := fun As m k => match As with
  | [.ref x0] => (d_X3_madeWires x0 m).bind (fun q => k (some (.int q)) m)
  | _ => dc_kz
theorem H_X3_madeWires_ok {u : Nat} : dc_cok u 29 H_X3_madeWires := fun M' hG N As m k P hz hP => by
  obtain rfl : ab_M_X3_madeWires = M' := Option.some.inj hG
  unfold H_X3_madeWires at hP
  split at hP
  · rename_i x0
    exact dc_pv.imp (k_X3_madeWires (Φ := fun (t : Option Int32) r m' => P (t.bind (fun q => k (some (.int q)) m)) → P (k r m')) x0 m (fun _  h => h) rfl) (fun r m' h => h hP)
  · exact absurd hP hz
noncomputable def C_X0_find : List (Nat × dc_H) := [(2, H_X0_findQuarrels), (4, H_X0_findTakenBack), (29, H_X3_madeWires)]
theorem CO_X0_find {u : Nat} : dc_CO u C_X0_find := dc_CO_cons H_X0_findQuarrels_ok (dc_CO_cons H_X0_findTakenBack_ok (dc_CO_cons H_X3_madeWires_ok (dc_CO_nil)))
def S_X0_find : List (Nat × List Nat) := []
noncomputable def d_X0_find (x0 : Nat) (x1 : Nat) (x2 : Nat) (m : dc_M) : Option dc_M :=
  ((d_X3_madeWires x1 m).bind (fun q1 => ((d_X0_findQuarrels x0 q1 x2 m).bind (fun q2 => ((d_X0_findTakenBack x0 x1 q1 x2 q2).bind (fun q3 => some (q3)))))))
set_option maxHeartbeats 8000000 in
theorem k_X0_find {u : Nat} {N : Nat} {Φ : (Option dc_M) → Option Value → dc_M → Prop} (x0 : Nat) (x1 : Nat) (x2 : Nat) (m : dc_M) (kR : ∀  (m : dc_M), Φ (some (m)) (none) m)  {lv : ab_L} (f0 : ab_lk lv 0 = some (.ref x0)) (f1 : ab_lk lv 1 = some (.ref x1)) (f2 : ab_lk lv 2 = some (.ref x2)) : dc_pv u N ab_M_X0_find 0 lv [] m (Φ (d_X0_find x0 x1 x2 m)) := by
  refine dc_pv.mono (dc_ok (C := C_X0_find) (S := S_X0_find) CO_X0_find 400 0 [(0, .ref x0), (1, .ref x1), (2, .ref x2)] lv [] m (dc_sub_cons f0 (dc_sub_cons f1 (dc_sub_cons f2 (dc_sub_nil)))) ?_) (Nat.le_succ N)
  unfold d_X0_find
  refine dg_s (pc' := 1) [.ref x1] rfl (fun _ => rfl) rfl ?_
  refine dw_b (fun t => Φ t) (pc' := 4) (fun q1 => [.int q1]) (fun q1 => m) rfl (fun _ => rfl) (fun q1 => ?_)
  refine dw_g rfl ?_
  refine dg_L (pc' := 5) [(3, .int q1), (0, .ref x0), (1, .ref x1), (2, .ref x2)] [] rfl (fun _ => rfl) rfl ?_
  refine dg_s (pc' := 6) [.ref x0] rfl (fun _ => rfl) rfl ?_
  refine dg_s (pc' := 7) [.int q1, .ref x0] rfl (fun _ => rfl) rfl ?_
  refine dg_s (pc' := 8) [.ref x2, .int q1, .ref x0] rfl (fun _ => rfl) rfl ?_
  refine dw_b (fun t => Φ t) (pc' := 11) (fun q2 => []) (fun q2 => q2) rfl (fun _ => rfl) (fun q2 => ?_)
  refine dw_g rfl ?_
  refine dg_s (pc' := 12) [.ref x0] rfl (fun _ => rfl) rfl ?_
  refine dg_s (pc' := 13) [.ref x1, .ref x0] rfl (fun _ => rfl) rfl ?_
  refine dg_s (pc' := 14) [.int q1, .ref x1, .ref x0] rfl (fun _ => rfl) rfl ?_
  refine dg_s (pc' := 15) [.ref x2, .int q1, .ref x1, .ref x0] rfl (fun _ => rfl) rfl ?_
  refine dw_b (fun t => Φ t) (pc' := 18) (fun q3 => []) (fun q3 => q3) rfl (fun _ => rfl) (fun q3 => ?_)
  refine dw_g rfl ?_
  exact dw_r (some (.inl (none, q3))) rfl (fun _ => rfl) (kR _)
noncomputable def H_X0_find : dc_H := fun As m k => match As with
  | [.ref x0, .ref x1, .ref x2] => (d_X0_find x0 x1 x2 m).bind (fun q => k (none) q)
  | _ => dc_kz
theorem H_X0_find_ok {u : Nat} : dc_cok u 1 H_X0_find := fun M' hG N As m k P hz hP => by
  obtain rfl : ab_M_X0_find = M' := Option.some.inj hG
  unfold H_X0_find at hP
  split at hP
  · rename_i x0 x1 x2
    exact dc_pv.imp (k_X0_find (Φ := fun (t : Option dc_M) r m' => P (t.bind (fun q => k (none) q)) → P (k r m')) x0 x1 x2 m (fun _ h => h) rfl rfl rfl) (fun r m' h => h hP)
  · exact absurd hP hz
def C_X1_isPrime : List (Nat × dc_H) := []
theorem CO_X1_isPrime {u : Nat} : dc_CO u C_X1_isPrime := dc_CO_nil
def S_X1_isPrime : List (Nat × List Nat) := [(6, [1, 3, 5, 6, 7]), (47, [1, 3, 5, 6, 7, 8, 9])]
noncomputable def d_X1_isPrime_b47 (x1 : Int64) (x3 : Int64) (x5 : Int32) (x6 : Int32) (x7 : Int32) (x8 : Int32) (x9 : Int32) (m : dc_M) : Option ((Int32 × Int32) ⊕ Int32) :=
  (if ¬ (Int32.toInt x8) = 1 then some (Sum.inl (x6, (x7 + (1 : Int32)))) else (if ¬ (Int32.toInt (lg_cmp ((((x1).toUInt64 >>> ((Int32.toInt64 x9).toUInt64 &&& Int64.toUInt64 63)).toInt64) &&& x3) (0 : Int64))) = 0 then some (Sum.inl (x6, (x7 + (1 : Int32)))) else some (Sum.inr ((0 : Int32)))))
set_option maxHeartbeats 8000000 in
theorem k_X1_isPrime_b47 {u : Nat} {N : Nat} {Φ : (Option ((Int32 × Int32) ⊕ Int32)) → Option Value → dc_M → Prop} (x1 : Int64) (x3 : Int64) (x5 : Int32) (x6 : Int32) (x7 : Int32) (x8 : Int32) (x9 : Int32) (m : dc_M) (kR : ∀ (v : Int32), Φ (some (Sum.inr (v))) (some (.int v)) m) (k6 : ∀ (x6 : Int32) (x7 : Int32) (lv : ab_L), ab_lk lv 1 = some (.long x1) → ab_lk lv 3 = some (.long x3) → ab_lk lv 5 = some (.int x5) → ab_lk lv 6 = some (.int x6) → ab_lk lv 7 = some (.int x7) →  dc_pv u N ab_M_X1_isPrime 6 lv [] m (Φ (some (Sum.inl (x6, x7))))) {lv : ab_L} (f1 : ab_lk lv 1 = some (.long x1)) (f3 : ab_lk lv 3 = some (.long x3)) (f5 : ab_lk lv 5 = some (.int x5)) (f6 : ab_lk lv 6 = some (.int x6)) (f7 : ab_lk lv 7 = some (.int x7)) (f8 : ab_lk lv 8 = some (.int x8)) (f9 : ab_lk lv 9 = some (.int x9)) : dc_pv u N ab_M_X1_isPrime 47 lv [] m (Φ (d_X1_isPrime_b47 x1 x3 x5 x6 x7 x8 x9 m)) := by
  refine dc_pv.mono (dc_ok (C := C_X1_isPrime) (S := S_X1_isPrime) CO_X1_isPrime 400 47 [(1, .long x1), (3, .long x3), (5, .int x5), (6, .int x6), (7, .int x7), (8, .int x8), (9, .int x9)] lv [] m (dc_sub_cons f1 (dc_sub_cons f3 (dc_sub_cons f5 (dc_sub_cons f6 (dc_sub_cons f7 (dc_sub_cons f8 (dc_sub_cons f9 (dc_sub_nil)))))))) ?_) (Nat.le_succ N)
  unfold d_X1_isPrime_b47
  refine dg_s (pc' := 49) [.int x8] rfl (fun _ => rfl) rfl ?_
  refine dg_s (pc' := 50) [.int (1 : Int32), .int x8] rfl (fun _ => rfl) rfl ?_
  refine dw_if (fun t => Φ t) (¬ (Int32.toInt x8) = 1) [] 66 53 rfl (fun _ => rfl) (fun c0 => ?_) (fun c0 => ?_)
  · refine dw_g rfl ?_
    refine dg_L (pc' := 69) [(7, .int (x7 + (1 : Int32))), (1, .long x1), (3, .long x3), (5, .int x5), (6, .int x6), (8, .int x8), (9, .int x9)] [] rfl (fun _ => rfl) rfl ?_
    refine dw_s (pc' := 6) [] rfl (fun _ => rfl) ?_
    exact dw_j rfl (fun lv1 hv => k6 x6 (x7 + (1 : Int32)) lv1 (hv.1 _ rfl) (hv.2.1 _ rfl) (hv.2.2.1 _ rfl) (hv.2.2.2.1 _ rfl) (hv.2.2.2.2.1 _ rfl))
  · refine dw_g rfl ?_
    refine dg_s (pc' := 54) [.long x1] rfl (fun _ => rfl) rfl ?_
    refine dg_s (pc' := 56) [.int x9, .long x1] rfl (fun _ => rfl) rfl ?_
    refine dg_s (pc' := 57) [.long (((x1).toUInt64 >>> ((Int32.toInt64 x9).toUInt64 &&& Int64.toUInt64 63)).toInt64)] rfl (fun _ => rfl) rfl ?_
    refine dg_s (pc' := 58) [.long x3, .long (((x1).toUInt64 >>> ((Int32.toInt64 x9).toUInt64 &&& Int64.toUInt64 63)).toInt64)] rfl (fun _ => rfl) rfl ?_
    refine dg_s (pc' := 59) [.long ((((x1).toUInt64 >>> ((Int32.toInt64 x9).toUInt64 &&& Int64.toUInt64 63)).toInt64) &&& x3)] rfl (fun _ => rfl) rfl ?_
    refine dg_s (pc' := 60) [.long (0 : Int64), .long ((((x1).toUInt64 >>> ((Int32.toInt64 x9).toUInt64 &&& Int64.toUInt64 63)).toInt64) &&& x3)] rfl (fun _ => rfl) rfl ?_
    refine dg_s (pc' := 61) [.int (lg_cmp ((((x1).toUInt64 >>> ((Int32.toInt64 x9).toUInt64 &&& Int64.toUInt64 63)).toInt64) &&& x3) (0 : Int64))] rfl (fun _ => rfl) rfl ?_
    refine dw_if (fun t => Φ t) (¬ (Int32.toInt (lg_cmp ((((x1).toUInt64 >>> ((Int32.toInt64 x9).toUInt64 &&& Int64.toUInt64 63)).toInt64) &&& x3) (0 : Int64))) = 0) [] 66 64 rfl (fun _ => rfl) (fun c1 => ?_) (fun c1 => ?_)
    · refine dw_g rfl ?_
      refine dg_L (pc' := 69) [(7, .int (x7 + (1 : Int32))), (1, .long x1), (3, .long x3), (5, .int x5), (6, .int x6), (8, .int x8), (9, .int x9)] [] rfl (fun _ => rfl) rfl ?_
      refine dw_s (pc' := 6) [] rfl (fun _ => rfl) ?_
      exact dw_j rfl (fun lv1 hv => k6 x6 (x7 + (1 : Int32)) lv1 (hv.1 _ rfl) (hv.2.1 _ rfl) (hv.2.2.1 _ rfl) (hv.2.2.2.1 _ rfl) (hv.2.2.2.2.1 _ rfl))
    · refine dw_g rfl ?_
      refine dg_s (pc' := 65) [.int (0 : Int32)] rfl (fun _ => rfl) rfl ?_
      exact dw_r (some (.inl (some (.int (0 : Int32)), m))) rfl (fun _ => rfl) (kR _)
noncomputable def d_X1_isPrime_l6b (x1 : Int64) (x3 : Int64) (x5 : Int32) (x6 : Int32) (x7 : Int32) (m : dc_M) : Option ((Int32 × Int32) ⊕ Int32) :=
  (if (Int32.toInt x5) ≤ (Int32.toInt x7) then some (Sum.inr ((1 : Int32))) else (if ¬ (Int32.toInt (x6 - x6 / (3 : Int32) * (3 : Int32))) = 0 then (d_X1_isPrime_b47 x1 x3 x5 (x6 / (3 : Int32)) x7 (x6 - x6 / (3 : Int32) * (3 : Int32)) ((1 : Int32) <<< (x7 &&& 31)) m) else (if (Int32.toInt (lg_cmp ((x1 <<< (Int32.toInt64 ((1 : Int32) <<< (x7 &&& 31)) &&& 63)) &&& x3) (0 : Int64))) = 0 then some (Sum.inr ((0 : Int32))) else (d_X1_isPrime_b47 x1 x3 x5 (x6 / (3 : Int32)) x7 (x6 - x6 / (3 : Int32) * (3 : Int32)) ((1 : Int32) <<< (x7 &&& 31)) m))))
noncomputable def d_X1_isPrime_l6s (x1 : Int64) (x3 : Int64) (x5 : Int32) (m : dc_M) : (Int32 × Int32) → Option ((Int32 × Int32) ⊕ Int32) := fun s => d_X1_isPrime_l6b x1 x3 x5 s.1 s.2 m
noncomputable def d_X1_isPrime_l6 (x1 : Int64) (x3 : Int64) (x5 : Int32) (x6 : Int32) (x7 : Int32) (m : dc_M) : Option Int32 := dc_lp (d_X1_isPrime_l6s x1 x3 x5 m) (x6, x7)
set_option maxHeartbeats 8000000 in
theorem k_X1_isPrime_l6 {u : Nat} {Φ : (Option Int32) → Option Value → dc_M → Prop} (x1 : Int64) (x3 : Int64) (x5 : Int32) (m : dc_M) (kR : ∀ (v : Int32), Φ (some (v)) (some (.int v)) m) : ∀ (N : Nat), ∀ (x6 : Int32) (x7 : Int32) (lv : ab_L), ab_lk lv 1 = some (.long x1) → ab_lk lv 3 = some (.long x3) → ab_lk lv 5 = some (.int x5) → ab_lk lv 6 = some (.int x6) → ab_lk lv 7 = some (.int x7) → dc_pv u N ab_M_X1_isPrime 6 lv [] m (Φ (d_X1_isPrime_l6 x1 x3 x5 x6 x7 m)) := by
  intro N
  induction N with
  | zero => intros; exact dc_pv_zero
  | succ N ih =>
    intro x6 x7 lv f1 f3 f5 f6 f7
    refine dc_ok (C := C_X1_isPrime) (S := S_X1_isPrime) CO_X1_isPrime 400 6 [(1, .long x1), (3, .long x3), (5, .int x5), (6, .int x6), (7, .int x7)] lv [] m (dc_sub_cons f1 (dc_sub_cons f3 (dc_sub_cons f5 (dc_sub_cons f6 (dc_sub_cons f7 (dc_sub_nil)))))) ?_
    unfold d_X1_isPrime_l6
    rw [dc_lp_eq]
    show (fun t x => dc_lf u N ab_M_X1_isPrime (Φ (Option.bind t (dc_bk (d_X1_isPrime_l6s x1 x3 x5 m)))) x) (d_X1_isPrime_l6b x1 x3 x5 x6 x7 m) _
    dsimp only
    unfold d_X1_isPrime_l6b
    refine dg_s (pc' := 8) [.int x7] rfl (fun _ => rfl) rfl ?_
    refine dg_s (pc' := 10) [.int x5, .int x7] rfl (fun _ => rfl) rfl ?_
    refine dw_if (fun t => Φ (Option.bind t (dc_bk (d_X1_isPrime_l6s x1 x3 x5 m)))) ((Int32.toInt x5) ≤ (Int32.toInt x7)) [] 72 13 rfl (fun _ => rfl) (fun c0 => ?_) (fun c0 => ?_)
    · refine dw_g rfl ?_
      refine dg_s (pc' := 73) [.int (1 : Int32)] rfl (fun _ => rfl) rfl ?_
      exact dw_r (some (.inl (some (.int (1 : Int32)), m))) rfl (fun _ => rfl) (kR _)
    · refine dw_g rfl ?_
      refine dg_s (pc' := 15) [.int x6] rfl (fun _ => rfl) rfl ?_
      refine dg_s (pc' := 16) [.int (3 : Int32), .int x6] rfl (fun _ => rfl) rfl ?_
      refine dg_s (pc' := 17) [.int (x6 - x6 / (3 : Int32) * (3 : Int32))] rfl (fun _ => rfl) rfl ?_
      refine dg_L (pc' := 19) [(8, .int (x6 - x6 / (3 : Int32) * (3 : Int32))), (1, .long x1), (3, .long x3), (5, .int x5), (6, .int x6), (7, .int x7)] [] rfl (fun _ => rfl) rfl ?_
      refine dg_s (pc' := 21) [.int x6] rfl (fun _ => rfl) rfl ?_
      refine dg_s (pc' := 22) [.int (3 : Int32), .int x6] rfl (fun _ => rfl) rfl ?_
      refine dg_s (pc' := 23) [.int (x6 / (3 : Int32))] rfl (fun _ => rfl) rfl ?_
      refine dg_L (pc' := 25) [(6, .int (x6 / (3 : Int32))), (8, .int (x6 - x6 / (3 : Int32) * (3 : Int32))), (1, .long x1), (3, .long x3), (5, .int x5), (7, .int x7)] [] rfl (fun _ => rfl) rfl ?_
      refine dg_s (pc' := 26) [.int (1 : Int32)] rfl (fun _ => rfl) rfl ?_
      refine dg_s (pc' := 28) [.int x7, .int (1 : Int32)] rfl (fun _ => rfl) rfl ?_
      refine dg_s (pc' := 29) [.int ((1 : Int32) <<< (x7 &&& 31))] rfl (fun _ => rfl) rfl ?_
      refine dg_L (pc' := 31) [(9, .int ((1 : Int32) <<< (x7 &&& 31))), (6, .int (x6 / (3 : Int32))), (8, .int (x6 - x6 / (3 : Int32) * (3 : Int32))), (1, .long x1), (3, .long x3), (5, .int x5), (7, .int x7)] [] rfl (fun _ => rfl) rfl ?_
      refine dg_s (pc' := 33) [.int (x6 - x6 / (3 : Int32) * (3 : Int32))] rfl (fun _ => rfl) rfl ?_
      refine dw_if (fun t => Φ (Option.bind t (dc_bk (d_X1_isPrime_l6s x1 x3 x5 m)))) (¬ (Int32.toInt (x6 - x6 / (3 : Int32) * (3 : Int32))) = 0) [] 47 36 rfl (fun _ => rfl) (fun c1 => ?_) (fun c1 => ?_)
      · exact dw_j rfl (fun lv1 hv => k_X1_isPrime_b47 (Φ := (fun t => Φ (Option.bind t (dc_bk (d_X1_isPrime_l6s x1 x3 x5 m))))) x1 x3 x5 (x6 / (3 : Int32)) x7 (x6 - x6 / (3 : Int32) * (3 : Int32)) ((1 : Int32) <<< (x7 &&& 31)) m (fun _a  => kR _a) ih (hv.1 _ rfl) (hv.2.1 _ rfl) (hv.2.2.1 _ rfl) (hv.2.2.2.1 _ rfl) (hv.2.2.2.2.1 _ rfl) (hv.2.2.2.2.2.1 _ rfl) (hv.2.2.2.2.2.2.1 _ rfl))
      · refine dw_g rfl ?_
        refine dg_s (pc' := 37) [.long x1] rfl (fun _ => rfl) rfl ?_
        refine dg_s (pc' := 39) [.int ((1 : Int32) <<< (x7 &&& 31)), .long x1] rfl (fun _ => rfl) rfl ?_
        refine dg_s (pc' := 40) [.long (x1 <<< (Int32.toInt64 ((1 : Int32) <<< (x7 &&& 31)) &&& 63))] rfl (fun _ => rfl) rfl ?_
        refine dg_s (pc' := 41) [.long x3, .long (x1 <<< (Int32.toInt64 ((1 : Int32) <<< (x7 &&& 31)) &&& 63))] rfl (fun _ => rfl) rfl ?_
        refine dg_s (pc' := 42) [.long ((x1 <<< (Int32.toInt64 ((1 : Int32) <<< (x7 &&& 31)) &&& 63)) &&& x3)] rfl (fun _ => rfl) rfl ?_
        refine dg_s (pc' := 43) [.long (0 : Int64), .long ((x1 <<< (Int32.toInt64 ((1 : Int32) <<< (x7 &&& 31)) &&& 63)) &&& x3)] rfl (fun _ => rfl) rfl ?_
        refine dg_s (pc' := 44) [.int (lg_cmp ((x1 <<< (Int32.toInt64 ((1 : Int32) <<< (x7 &&& 31)) &&& 63)) &&& x3) (0 : Int64))] rfl (fun _ => rfl) rfl ?_
        refine dw_if (fun t => Φ (Option.bind t (dc_bk (d_X1_isPrime_l6s x1 x3 x5 m)))) ((Int32.toInt (lg_cmp ((x1 <<< (Int32.toInt64 ((1 : Int32) <<< (x7 &&& 31)) &&& 63)) &&& x3) (0 : Int64))) = 0) [] 64 47 rfl (fun _ => rfl) (fun c2 => ?_) (fun c2 => ?_)
        · refine dw_g rfl ?_
          refine dg_s (pc' := 65) [.int (0 : Int32)] rfl (fun _ => rfl) rfl ?_
          exact dw_r (some (.inl (some (.int (0 : Int32)), m))) rfl (fun _ => rfl) (kR _)
        · exact dw_j rfl (fun lv1 hv => k_X1_isPrime_b47 (Φ := (fun t => Φ (Option.bind t (dc_bk (d_X1_isPrime_l6s x1 x3 x5 m))))) x1 x3 x5 (x6 / (3 : Int32)) x7 (x6 - x6 / (3 : Int32) * (3 : Int32)) ((1 : Int32) <<< (x7 &&& 31)) m (fun _a  => kR _a) ih (hv.1 _ rfl) (hv.2.1 _ rfl) (hv.2.2.1 _ rfl) (hv.2.2.2.1 _ rfl) (hv.2.2.2.2.1 _ rfl) (hv.2.2.2.2.2.1 _ rfl) (hv.2.2.2.2.2.2.1 _ rfl))
noncomputable def d_X1_isPrime (x0 : Int32) (x1 : Int64) (x3 : Int64) (x5 : Int32) (m : dc_M) : Option Int32 :=
  (d_X1_isPrime_l6 x1 x3 x5 x0 (0 : Int32) m)
set_option maxHeartbeats 8000000 in
theorem k_X1_isPrime {u : Nat} {N : Nat} {Φ : (Option Int32) → Option Value → dc_M → Prop} (x0 : Int32) (x1 : Int64) (x3 : Int64) (x5 : Int32) (m : dc_M) (kR : ∀ (v : Int32), Φ (some (v)) (some (.int v)) m)  {lv : ab_L} (f0 : ab_lk lv 0 = some (.int x0)) (f1 : ab_lk lv 1 = some (.long x1)) (f3 : ab_lk lv 3 = some (.long x3)) (f5 : ab_lk lv 5 = some (.int x5)) : dc_pv u N ab_M_X1_isPrime 0 lv [] m (Φ (d_X1_isPrime x0 x1 x3 x5 m)) := by
  refine dc_pv.mono (dc_ok (C := C_X1_isPrime) (S := S_X1_isPrime) CO_X1_isPrime 400 0 [(0, .int x0), (1, .long x1), (3, .long x3), (5, .int x5)] lv [] m (dc_sub_cons f0 (dc_sub_cons f1 (dc_sub_cons f3 (dc_sub_cons f5 (dc_sub_nil))))) ?_) (Nat.le_succ N)
  unfold d_X1_isPrime
  refine dg_s (pc' := 1) [.int x0] rfl (fun _ => rfl) rfl ?_
  refine dg_L (pc' := 3) [(6, .int x0), (0, .int x0), (1, .long x1), (3, .long x3), (5, .int x5)] [] rfl (fun _ => rfl) rfl ?_
  refine dg_s (pc' := 4) [.int (0 : Int32)] rfl (fun _ => rfl) rfl ?_
  refine dw_L (pc' := 6) [(7, .int (0 : Int32)), (6, .int x0), (0, .int x0), (1, .long x1), (3, .long x3), (5, .int x5)] [] rfl (fun _ => rfl) ?_
  exact dw_j rfl (fun lv1 hv => k_X1_isPrime_l6 (Φ := (fun t => Φ t)) x1 x3 x5 m (fun _a  => kR _a) N  x0 (0 : Int32) lv1 (hv.1 _ rfl) (hv.2.1 _ rfl) (hv.2.2.1 _ rfl) (hv.2.2.2.1 _ rfl) (hv.2.2.2.2.1 _ rfl))
noncomputable def H_X1_isPrime : dc_H := fun As m k => match As with
  | [.int x0, .long x1, .long x3, .int x5] => (d_X1_isPrime x0 x1 x3 x5 m).bind (fun q => k (some (.int q)) m)
  | _ => dc_kz
theorem H_X1_isPrime_ok {u : Nat} : dc_cok u 8 H_X1_isPrime := fun M' hG N As m k P hz hP => by
  obtain rfl : ab_M_X1_isPrime = M' := Option.some.inj hG
  unfold H_X1_isPrime at hP
  split at hP
  · rename_i x0 x1 x3 x5
    exact dc_pv.imp (k_X1_isPrime (Φ := fun (t : Option Int32) r m' => P (t.bind (fun q => k (some (.int q)) m)) → P (k r m')) x0 x1 x3 x5 m (fun _  h => h) rfl rfl rfl rfl) (fun r m' h => h hP)
  · exact absurd hP hz
def C_J9_min_7cf53 : List (Nat × dc_H) := []
theorem CO_J9_min_7cf53 {u : Nat} : dc_CO u C_J9_min_7cf53 := dc_CO_nil
def S_J9_min_7cf53 : List (Nat × List Nat) := []
def d_J9_min_7cf53 (x0 : Int32) (x1 : Int32) (m : dc_M) : Int32 :=
  (if (Int32.toInt x1) < (Int32.toInt x0) then x1 else x0)
set_option maxHeartbeats 8000000 in
theorem k_J9_min_7cf53 {u : Nat} {N : Nat} {Φ : Int32 → Option Value → dc_M → Prop} (x0 : Int32) (x1 : Int32) (m : dc_M) (kR : ∀ (v : Int32), Φ (v) (some (.int v)) m)  {lv : ab_L} (f0 : ab_lk lv 0 = some (.int x0)) (f1 : ab_lk lv 1 = some (.int x1)) : dc_pv u N ab_M_J9_min_7cf53 0 lv [] m (Φ (d_J9_min_7cf53 x0 x1 m)) := by
  refine dc_pv.mono (dc_ok (C := C_J9_min_7cf53) (S := S_J9_min_7cf53) CO_J9_min_7cf53 400 0 [(0, .int x0), (1, .int x1)] lv [] m (dc_sub_cons f0 (dc_sub_cons f1 (dc_sub_nil))) ?_) (Nat.le_succ N)
  unfold d_J9_min_7cf53
  refine dg_s (pc' := 1) [.int x0] rfl (fun _ => rfl) rfl ?_
  refine dg_s (pc' := 2) [.int x1, .int x0] rfl (fun _ => rfl) rfl ?_
  refine dw_if (fun t => Φ t) ((Int32.toInt x1) < (Int32.toInt x0)) [] 9 5 rfl (fun _ => rfl) (fun c0 => ?_) (fun c0 => ?_)
  · refine dw_g rfl ?_
    refine dg_s (pc' := 10) [.int x1] rfl (fun _ => rfl) rfl ?_
    exact dw_r (some (.inl (some (.int x1), m))) rfl (fun _ => rfl) (kR _)
  · refine dw_g rfl ?_
    refine dg_s (pc' := 6) [.int x0] rfl (fun _ => rfl) rfl ?_
    refine dg_s (pc' := 10) [.int x0] rfl (fun _ => rfl) rfl ?_
    exact dw_r (some (.inl (some (.int x0), m))) rfl (fun _ => rfl) (kR _)
def H_J9_min_7cf53 : dc_H := fun As m k => match As with
  | [.int x0, .int x1] => k (some (.int (d_J9_min_7cf53 x0 x1 m))) m
  | _ => dc_kz
theorem H_J9_min_7cf53_ok {u : Nat} : dc_cok u 231 H_J9_min_7cf53 := fun M' hG N As m k P hz hP => by
  obtain rfl : ab_M_J9_min_7cf53 = M' := Option.some.inj hG
  unfold H_J9_min_7cf53 at hP
  split at hP
  · rename_i x0 x1
    exact dc_pv.imp (k_J9_min_7cf53 (Φ := fun (t : Int32) r m' => P (k (some (.int t)) m) → P (k r m')) x0 x1 m (fun _  h => h) rfl rfl) (fun r m' h => h hP)
  · exact absurd hP hz
def C_X1_putInOrder : List (Nat × dc_H) := []
theorem CO_X1_putInOrder {u : Nat} : dc_CO u C_X1_putInOrder := dc_CO_nil
def S_X1_putInOrder : List (Nat × List Nat) := [(5, [0, 1, 2])]
noncomputable def d_X1_putInOrder_l5b (x0 : Nat) (x1 : Int32) (x2 : Int32) (m : dc_M) : Option ((Int32 × dc_M) ⊕ dc_M) :=
  (if (Int32.toInt x2) ≤ 0 then some (Sum.inr ((dc_wi (dc_wi m (x0 + 8) (Int32.toNatClampNeg x2) x1) x0 9 (((dc_wi m (x0 + 8) (Int32.toNatClampNeg x2) x1).1 x0 9) + (1 : Int32))))) else (if (Int32.toInt (m.1 (x0 + 5) (Int32.toNatClampNeg (m.1 (x0 + 8) (Int32.toNatClampNeg (x2 - (1 : Int32))))))) ≤ (Int32.toInt (m.1 (x0 + 5) (Int32.toNatClampNeg x1))) then some (Sum.inr ((dc_wi (dc_wi m (x0 + 8) (Int32.toNatClampNeg x2) x1) x0 9 (((dc_wi m (x0 + 8) (Int32.toNatClampNeg x2) x1).1 x0 9) + (1 : Int32))))) else some (Sum.inl ((x2 + (-1)), (dc_wi m (x0 + 8) (Int32.toNatClampNeg x2) (m.1 (x0 + 8) (Int32.toNatClampNeg (x2 - (1 : Int32)))))))))
noncomputable def d_X1_putInOrder_l5s (x0 : Nat) (x1 : Int32) : (Int32 × dc_M) → Option ((Int32 × dc_M) ⊕ dc_M) := fun s => d_X1_putInOrder_l5b x0 x1 s.1 s.2
noncomputable def d_X1_putInOrder_l5 (x0 : Nat) (x1 : Int32) (x2 : Int32) (m : dc_M) : Option dc_M := dc_lp (d_X1_putInOrder_l5s x0 x1) (x2, m)
set_option maxHeartbeats 8000000 in
theorem k_X1_putInOrder_l5 {u : Nat} {Φ : (Option dc_M) → Option Value → dc_M → Prop} (x0 : Nat) (x1 : Int32) (kR : ∀  (m : dc_M), Φ (some (m)) (none) m) : ∀ (N : Nat), ∀ (x2 : Int32) (m : dc_M) (lv : ab_L), ab_lk lv 0 = some (.ref x0) → ab_lk lv 1 = some (.int x1) → ab_lk lv 2 = some (.int x2) → dc_pv u N ab_M_X1_putInOrder 5 lv [] m (Φ (d_X1_putInOrder_l5 x0 x1 x2 m)) := by
  intro N
  induction N with
  | zero => intros; exact dc_pv_zero
  | succ N ih =>
    intro x2 m lv f0 f1 f2
    refine dc_ok (C := C_X1_putInOrder) (S := S_X1_putInOrder) CO_X1_putInOrder 400 5 [(0, .ref x0), (1, .int x1), (2, .int x2)] lv [] m (dc_sub_cons f0 (dc_sub_cons f1 (dc_sub_cons f2 (dc_sub_nil)))) ?_
    unfold d_X1_putInOrder_l5
    rw [dc_lp_eq]
    show (fun t x => dc_lf u N ab_M_X1_putInOrder (Φ (Option.bind t (dc_bk (d_X1_putInOrder_l5s x0 x1)))) x) (d_X1_putInOrder_l5b x0 x1 x2 m) _
    dsimp only
    unfold d_X1_putInOrder_l5b
    refine dg_s (pc' := 6) [.int x2] rfl (fun _ => rfl) rfl ?_
    refine dw_if (fun t => Φ (Option.bind t (dc_bk (d_X1_putInOrder_l5s x0 x1)))) ((Int32.toInt x2) ≤ 0) [] 51 9 rfl (fun _ => rfl) (fun c0 => ?_) (fun c0 => ?_)
    · refine dw_g rfl ?_
      refine dg_s (pc' := 52) [.ref x0] rfl (fun _ => rfl) rfl ?_
      refine dg_s (pc' := 55) [.ref (x0 + 8)] rfl (fun _ => rfl) rfl ?_
      refine dg_s (pc' := 56) [.int x2, .ref (x0 + 8)] rfl (fun _ => rfl) rfl ?_
      refine dg_s (pc' := 57) [.int x1, .int x2, .ref (x0 + 8)] rfl (fun _ => rfl) rfl ?_
      refine dg_m (pc' := 58) (dc_wi m (x0 + 8) (Int32.toNatClampNeg x2) x1) [] rfl (fun _ => rfl) rfl ?_
      refine dg_s (pc' := 59) [.ref x0] rfl (fun _ => rfl) rfl ?_
      refine dg_s (pc' := 60) [.ref x0, .ref x0] rfl (fun _ => rfl) rfl ?_
      refine dg_s (pc' := 63) [.int ((dc_wi m (x0 + 8) (Int32.toNatClampNeg x2) x1).1 x0 9), .ref x0] rfl (fun _ => rfl) rfl ?_
      refine dg_s (pc' := 64) [.int (1 : Int32), .int ((dc_wi m (x0 + 8) (Int32.toNatClampNeg x2) x1).1 x0 9), .ref x0] rfl (fun _ => rfl) rfl ?_
      refine dg_s (pc' := 65) [.int (((dc_wi m (x0 + 8) (Int32.toNatClampNeg x2) x1).1 x0 9) + (1 : Int32)), .ref x0] rfl (fun _ => rfl) rfl ?_
      refine dg_m (pc' := 68) (dc_wi (dc_wi m (x0 + 8) (Int32.toNatClampNeg x2) x1) x0 9 (((dc_wi m (x0 + 8) (Int32.toNatClampNeg x2) x1).1 x0 9) + (1 : Int32))) [] rfl (fun _ => rfl) rfl ?_
      exact dw_r (some (.inl (none, (dc_wi (dc_wi m (x0 + 8) (Int32.toNatClampNeg x2) x1) x0 9 (((dc_wi m (x0 + 8) (Int32.toNatClampNeg x2) x1).1 x0 9) + (1 : Int32)))))) rfl (fun _ => rfl) (kR _)
    · refine dw_g rfl ?_
      refine dg_s (pc' := 10) [.ref x0] rfl (fun _ => rfl) rfl ?_
      refine dg_s (pc' := 13) [.ref (x0 + 5)] rfl (fun _ => rfl) rfl ?_
      refine dg_s (pc' := 14) [.ref x0, .ref (x0 + 5)] rfl (fun _ => rfl) rfl ?_
      refine dg_s (pc' := 17) [.ref (x0 + 8), .ref (x0 + 5)] rfl (fun _ => rfl) rfl ?_
      refine dg_s (pc' := 18) [.int x2, .ref (x0 + 8), .ref (x0 + 5)] rfl (fun _ => rfl) rfl ?_
      refine dg_s (pc' := 19) [.int (1 : Int32), .int x2, .ref (x0 + 8), .ref (x0 + 5)] rfl (fun _ => rfl) rfl ?_
      refine dg_s (pc' := 20) [.int (x2 - (1 : Int32)), .ref (x0 + 8), .ref (x0 + 5)] rfl (fun _ => rfl) rfl ?_
      refine dg_s (pc' := 21) [.int (m.1 (x0 + 8) (Int32.toNatClampNeg (x2 - (1 : Int32)))), .ref (x0 + 5)] rfl (fun _ => rfl) rfl ?_
      refine dg_s (pc' := 22) [.int (m.1 (x0 + 5) (Int32.toNatClampNeg (m.1 (x0 + 8) (Int32.toNatClampNeg (x2 - (1 : Int32))))))] rfl (fun _ => rfl) rfl ?_
      refine dg_s (pc' := 23) [.ref x0, .int (m.1 (x0 + 5) (Int32.toNatClampNeg (m.1 (x0 + 8) (Int32.toNatClampNeg (x2 - (1 : Int32))))))] rfl (fun _ => rfl) rfl ?_
      refine dg_s (pc' := 26) [.ref (x0 + 5), .int (m.1 (x0 + 5) (Int32.toNatClampNeg (m.1 (x0 + 8) (Int32.toNatClampNeg (x2 - (1 : Int32))))))] rfl (fun _ => rfl) rfl ?_
      refine dg_s (pc' := 27) [.int x1, .ref (x0 + 5), .int (m.1 (x0 + 5) (Int32.toNatClampNeg (m.1 (x0 + 8) (Int32.toNatClampNeg (x2 - (1 : Int32))))))] rfl (fun _ => rfl) rfl ?_
      refine dg_s (pc' := 28) [.int (m.1 (x0 + 5) (Int32.toNatClampNeg x1)), .int (m.1 (x0 + 5) (Int32.toNatClampNeg (m.1 (x0 + 8) (Int32.toNatClampNeg (x2 - (1 : Int32))))))] rfl (fun _ => rfl) rfl ?_
      refine dw_if (fun t => Φ (Option.bind t (dc_bk (d_X1_putInOrder_l5s x0 x1)))) ((Int32.toInt (m.1 (x0 + 5) (Int32.toNatClampNeg (m.1 (x0 + 8) (Int32.toNatClampNeg (x2 - (1 : Int32))))))) ≤ (Int32.toInt (m.1 (x0 + 5) (Int32.toNatClampNeg x1)))) [] 51 31 rfl (fun _ => rfl) (fun c1 => ?_) (fun c1 => ?_)
      · refine dw_g rfl ?_
        refine dg_s (pc' := 52) [.ref x0] rfl (fun _ => rfl) rfl ?_
        refine dg_s (pc' := 55) [.ref (x0 + 8)] rfl (fun _ => rfl) rfl ?_
        refine dg_s (pc' := 56) [.int x2, .ref (x0 + 8)] rfl (fun _ => rfl) rfl ?_
        refine dg_s (pc' := 57) [.int x1, .int x2, .ref (x0 + 8)] rfl (fun _ => rfl) rfl ?_
        refine dg_m (pc' := 58) (dc_wi m (x0 + 8) (Int32.toNatClampNeg x2) x1) [] rfl (fun _ => rfl) rfl ?_
        refine dg_s (pc' := 59) [.ref x0] rfl (fun _ => rfl) rfl ?_
        refine dg_s (pc' := 60) [.ref x0, .ref x0] rfl (fun _ => rfl) rfl ?_
        refine dg_s (pc' := 63) [.int ((dc_wi m (x0 + 8) (Int32.toNatClampNeg x2) x1).1 x0 9), .ref x0] rfl (fun _ => rfl) rfl ?_
        refine dg_s (pc' := 64) [.int (1 : Int32), .int ((dc_wi m (x0 + 8) (Int32.toNatClampNeg x2) x1).1 x0 9), .ref x0] rfl (fun _ => rfl) rfl ?_
        refine dg_s (pc' := 65) [.int (((dc_wi m (x0 + 8) (Int32.toNatClampNeg x2) x1).1 x0 9) + (1 : Int32)), .ref x0] rfl (fun _ => rfl) rfl ?_
        refine dg_m (pc' := 68) (dc_wi (dc_wi m (x0 + 8) (Int32.toNatClampNeg x2) x1) x0 9 (((dc_wi m (x0 + 8) (Int32.toNatClampNeg x2) x1).1 x0 9) + (1 : Int32))) [] rfl (fun _ => rfl) rfl ?_
        exact dw_r (some (.inl (none, (dc_wi (dc_wi m (x0 + 8) (Int32.toNatClampNeg x2) x1) x0 9 (((dc_wi m (x0 + 8) (Int32.toNatClampNeg x2) x1).1 x0 9) + (1 : Int32)))))) rfl (fun _ => rfl) (kR _)
      · refine dw_g rfl ?_
        refine dg_s (pc' := 32) [.ref x0] rfl (fun _ => rfl) rfl ?_
        refine dg_s (pc' := 35) [.ref (x0 + 8)] rfl (fun _ => rfl) rfl ?_
        refine dg_s (pc' := 36) [.int x2, .ref (x0 + 8)] rfl (fun _ => rfl) rfl ?_
        refine dg_s (pc' := 37) [.ref x0, .int x2, .ref (x0 + 8)] rfl (fun _ => rfl) rfl ?_
        refine dg_s (pc' := 40) [.ref (x0 + 8), .int x2, .ref (x0 + 8)] rfl (fun _ => rfl) rfl ?_
        refine dg_s (pc' := 41) [.int x2, .ref (x0 + 8), .int x2, .ref (x0 + 8)] rfl (fun _ => rfl) rfl ?_
        refine dg_s (pc' := 42) [.int (1 : Int32), .int x2, .ref (x0 + 8), .int x2, .ref (x0 + 8)] rfl (fun _ => rfl) rfl ?_
        refine dg_s (pc' := 43) [.int (x2 - (1 : Int32)), .ref (x0 + 8), .int x2, .ref (x0 + 8)] rfl (fun _ => rfl) rfl ?_
        refine dg_s (pc' := 44) [.int (m.1 (x0 + 8) (Int32.toNatClampNeg (x2 - (1 : Int32)))), .int x2, .ref (x0 + 8)] rfl (fun _ => rfl) rfl ?_
        refine dg_m (pc' := 45) (dc_wi m (x0 + 8) (Int32.toNatClampNeg x2) (m.1 (x0 + 8) (Int32.toNatClampNeg (x2 - (1 : Int32))))) [] rfl (fun _ => rfl) rfl ?_
        refine dg_L (pc' := 48) [(2, .int (x2 + (-1))), (0, .ref x0), (1, .int x1)] [] rfl (fun _ => rfl) rfl ?_
        refine dw_s (pc' := 5) [] rfl (fun _ => rfl) ?_
        exact dw_j rfl (fun lv1 hv => ih (x2 + (-1)) (dc_wi m (x0 + 8) (Int32.toNatClampNeg x2) (m.1 (x0 + 8) (Int32.toNatClampNeg (x2 - (1 : Int32))))) lv1 (hv.1 _ rfl) (hv.2.1 _ rfl) (hv.2.2.1 _ rfl))
noncomputable def d_X1_putInOrder (x0 : Nat) (x1 : Int32) (m : dc_M) : Option dc_M :=
  (d_X1_putInOrder_l5 x0 x1 (m.1 x0 9) m)
set_option maxHeartbeats 8000000 in
theorem k_X1_putInOrder {u : Nat} {N : Nat} {Φ : (Option dc_M) → Option Value → dc_M → Prop} (x0 : Nat) (x1 : Int32) (m : dc_M) (kR : ∀  (m : dc_M), Φ (some (m)) (none) m)  {lv : ab_L} (f0 : ab_lk lv 0 = some (.ref x0)) (f1 : ab_lk lv 1 = some (.int x1)) : dc_pv u N ab_M_X1_putInOrder 0 lv [] m (Φ (d_X1_putInOrder x0 x1 m)) := by
  refine dc_pv.mono (dc_ok (C := C_X1_putInOrder) (S := S_X1_putInOrder) CO_X1_putInOrder 400 0 [(0, .ref x0), (1, .int x1)] lv [] m (dc_sub_cons f0 (dc_sub_cons f1 (dc_sub_nil))) ?_) (Nat.le_succ N)
  unfold d_X1_putInOrder
  refine dg_s (pc' := 1) [.ref x0] rfl (fun _ => rfl) rfl ?_
  refine dg_s (pc' := 4) [.int (m.1 x0 9)] rfl (fun _ => rfl) rfl ?_
  refine dw_L (pc' := 5) [(2, .int (m.1 x0 9)), (0, .ref x0), (1, .int x1)] [] rfl (fun _ => rfl) ?_
  exact dw_j rfl (fun lv1 hv => k_X1_putInOrder_l5 (Φ := (fun t => Φ t)) x0 x1 (fun _b => kR _b) N  (m.1 x0 9) m lv1 (hv.1 _ rfl) (hv.2.1 _ rfl) (hv.2.2.1 _ rfl))
noncomputable def H_X1_putInOrder : dc_H := fun As m k => match As with
  | [.ref x0, .int x1] => (d_X1_putInOrder x0 x1 m).bind (fun q => k (none) q)
  | _ => dc_kz
theorem H_X1_putInOrder_ok {u : Nat} : dc_cok u 10 H_X1_putInOrder := fun M' hG N As m k P hz hP => by
  obtain rfl : ab_M_X1_putInOrder = M' := Option.some.inj hG
  unfold H_X1_putInOrder at hP
  split at hP
  · rename_i x0 x1
    exact dc_pv.imp (k_X1_putInOrder (Φ := fun (t : Option dc_M) r m' => P (t.bind (fun q => k (none) q)) → P (k r m')) x0 x1 m (fun _ h => h) rfl rfl) (fun r m' h => h hP)
  · exact absurd hP hz
noncomputable def C_X1_weighLevels : List (Nat × dc_H) := [(231, H_J9_min_7cf53), (10, H_X1_putInOrder)]
theorem CO_X1_weighLevels {u : Nat} : dc_CO u C_X1_weighLevels := dc_CO_cons H_J9_min_7cf53_ok (dc_CO_cons H_X1_putInOrder_ok (dc_CO_nil))
def S_X1_weighLevels : List (Nat × List Nat) := [(7, [0, 1, 3]), (52, [0, 1, 3, 4]), (131, [0, 1, 3])]
noncomputable def d_X1_weighLevels_b131 (x0 : Nat) (x1 : Int64) (x3 : Int32) (m : dc_M) : Option ((Int32 × dc_M) ⊕ dc_M) :=
  ((d_X1_putInOrder x0 x3 m).bind (fun q1 => some (Sum.inl ((x3 + (1 : Int32)), q1))))
set_option maxHeartbeats 8000000 in
theorem k_X1_weighLevels_b131 {u : Nat} {N : Nat} {Φ : (Option ((Int32 × dc_M) ⊕ dc_M)) → Option Value → dc_M → Prop} (x0 : Nat) (x1 : Int64) (x3 : Int32) (m : dc_M) (kR : ∀  (m : dc_M), Φ (some (Sum.inr (m))) (none) m) (k7 : ∀ (x3 : Int32) (m : dc_M) (lv : ab_L), ab_lk lv 0 = some (.ref x0) → ab_lk lv 1 = some (.long x1) → ab_lk lv 3 = some (.int x3) →  dc_pv u N ab_M_X1_weighLevels 7 lv [] m (Φ (some (Sum.inl (x3, m))))) {lv : ab_L} (f0 : ab_lk lv 0 = some (.ref x0)) (f1 : ab_lk lv 1 = some (.long x1)) (f3 : ab_lk lv 3 = some (.int x3)) : dc_pv u N ab_M_X1_weighLevels 131 lv [] m (Φ (d_X1_weighLevels_b131 x0 x1 x3 m)) := by
  refine dc_pv.mono (dc_ok (C := C_X1_weighLevels) (S := S_X1_weighLevels) CO_X1_weighLevels 400 131 [(0, .ref x0), (1, .long x1), (3, .int x3)] lv [] m (dc_sub_cons f0 (dc_sub_cons f1 (dc_sub_cons f3 (dc_sub_nil)))) ?_) (Nat.le_succ N)
  unfold d_X1_weighLevels_b131
  refine dg_s (pc' := 132) [.ref x0] rfl (fun _ => rfl) rfl ?_
  refine dg_s (pc' := 133) [.int x3, .ref x0] rfl (fun _ => rfl) rfl ?_
  refine dw_b (fun t => Φ t) (pc' := 136) (fun q1 => []) (fun q1 => q1) rfl (fun _ => rfl) (fun q1 => ?_)
  refine dw_g rfl ?_
  refine dg_L (pc' := 139) [(3, .int (x3 + (1 : Int32))), (0, .ref x0), (1, .long x1)] [] rfl (fun _ => rfl) rfl ?_
  refine dw_s (pc' := 7) [] rfl (fun _ => rfl) ?_
  exact dw_j rfl (fun lv1 hv => k7 (x3 + (1 : Int32)) q1 lv1 (hv.1 _ rfl) (hv.2.1 _ rfl) (hv.2.2.1 _ rfl))
noncomputable def d_X1_weighLevels_l52b (x0 : Nat) (x1 : Int64) (x3 : Int32) (x4 : Int32) (m : dc_M) : Option ((Int32 × dc_M) ⊕ ((Int32 × dc_M) ⊕ dc_M)) :=
  (if (Int32.toInt (m.1 x0 1)) ≤ (Int32.toInt x4) then ((d_X1_weighLevels_b131 x0 x1 x3 m).map (fun z => Sum.inr (z))) else (if (Int32.toInt (lg_cmp (((((m.2.1 (x0 + 4) (Int32.toNatClampNeg x4))).toUInt64 >>> ((Int32.toInt64 x3).toUInt64 &&& Int64.toUInt64 63)).toInt64) &&& (1 : Int64)) (0 : Int64))) = 0 then some (Sum.inl ((x4 + (1 : Int32)), m)) else some (Sum.inl ((x4 + (1 : Int32)), (dc_wl (dc_wi (dc_wi m (x0 + 5) (Int32.toNatClampNeg x3) ((m.1 (x0 + 5) (Int32.toNatClampNeg x3)) + (1 : Int32))) (x0 + 6) (Int32.toNatClampNeg x3) (d_J9_min_7cf53 ((dc_wi m (x0 + 5) (Int32.toNatClampNeg x3) ((m.1 (x0 + 5) (Int32.toNatClampNeg x3)) + (1 : Int32))).1 (x0 + 6) (Int32.toNatClampNeg x3)) ((dc_wi m (x0 + 5) (Int32.toNatClampNeg x3) ((m.1 (x0 + 5) (Int32.toNatClampNeg x3)) + (1 : Int32))).1 (x0 + 3) (Int32.toNatClampNeg x4)) (dc_wi m (x0 + 5) (Int32.toNatClampNeg x3) ((m.1 (x0 + 5) (Int32.toNatClampNeg x3)) + (1 : Int32))))) (x0 + 7) (Int32.toNatClampNeg x3) (((dc_wi (dc_wi m (x0 + 5) (Int32.toNatClampNeg x3) ((m.1 (x0 + 5) (Int32.toNatClampNeg x3)) + (1 : Int32))) (x0 + 6) (Int32.toNatClampNeg x3) (d_J9_min_7cf53 ((dc_wi m (x0 + 5) (Int32.toNatClampNeg x3) ((m.1 (x0 + 5) (Int32.toNatClampNeg x3)) + (1 : Int32))).1 (x0 + 6) (Int32.toNatClampNeg x3)) ((dc_wi m (x0 + 5) (Int32.toNatClampNeg x3) ((m.1 (x0 + 5) (Int32.toNatClampNeg x3)) + (1 : Int32))).1 (x0 + 3) (Int32.toNatClampNeg x4)) (dc_wi m (x0 + 5) (Int32.toNatClampNeg x3) ((m.1 (x0 + 5) (Int32.toNatClampNeg x3)) + (1 : Int32))))).2.1 (x0 + 7) (Int32.toNatClampNeg x3)) ||| ((dc_wi (dc_wi m (x0 + 5) (Int32.toNatClampNeg x3) ((m.1 (x0 + 5) (Int32.toNatClampNeg x3)) + (1 : Int32))) (x0 + 6) (Int32.toNatClampNeg x3) (d_J9_min_7cf53 ((dc_wi m (x0 + 5) (Int32.toNatClampNeg x3) ((m.1 (x0 + 5) (Int32.toNatClampNeg x3)) + (1 : Int32))).1 (x0 + 6) (Int32.toNatClampNeg x3)) ((dc_wi m (x0 + 5) (Int32.toNatClampNeg x3) ((m.1 (x0 + 5) (Int32.toNatClampNeg x3)) + (1 : Int32))).1 (x0 + 3) (Int32.toNatClampNeg x4)) (dc_wi m (x0 + 5) (Int32.toNatClampNeg x3) ((m.1 (x0 + 5) (Int32.toNatClampNeg x3)) + (1 : Int32))))).2.1 (x0 + 4) (Int32.toNatClampNeg x4))))))))
noncomputable def d_X1_weighLevels_l52s (x0 : Nat) (x1 : Int64) (x3 : Int32) : (Int32 × dc_M) → Option ((Int32 × dc_M) ⊕ ((Int32 × dc_M) ⊕ dc_M)) := fun s => d_X1_weighLevels_l52b x0 x1 x3 s.1 s.2
noncomputable def d_X1_weighLevels_l52 (x0 : Nat) (x1 : Int64) (x3 : Int32) (x4 : Int32) (m : dc_M) : Option ((Int32 × dc_M) ⊕ dc_M) := dc_lp (d_X1_weighLevels_l52s x0 x1 x3) (x4, m)
set_option maxHeartbeats 8000000 in
theorem k_X1_weighLevels_l52 {u : Nat} {Φ : (Option ((Int32 × dc_M) ⊕ dc_M)) → Option Value → dc_M → Prop} (x0 : Nat) (x1 : Int64) (x3 : Int32) (kR : ∀  (m : dc_M), Φ (some (Sum.inr (m))) (none) m) : ∀ (N : Nat), (∀ (x3 : Int32) (m : dc_M) (lv : ab_L), ab_lk lv 0 = some (.ref x0) → ab_lk lv 1 = some (.long x1) → ab_lk lv 3 = some (.int x3) →  dc_pv u N ab_M_X1_weighLevels 7 lv [] m (Φ (some (Sum.inl (x3, m))))) → ∀ (x4 : Int32) (m : dc_M) (lv : ab_L), ab_lk lv 0 = some (.ref x0) → ab_lk lv 1 = some (.long x1) → ab_lk lv 3 = some (.int x3) → ab_lk lv 4 = some (.int x4) → dc_pv u N ab_M_X1_weighLevels 52 lv [] m (Φ (d_X1_weighLevels_l52 x0 x1 x3 x4 m)) := by
  intro N
  induction N with
  | zero => intros; exact dc_pv_zero
  | succ N ih =>
    intro k7 x4 m lv f0 f1 f3 f4
    have k7 := fun a0 a1 a2 a3 a4 a5 => (k7 a0 a1 a2 a3 a4 a5).mono (Nat.le_succ N)
    have ih := ih k7
    refine dc_ok (C := C_X1_weighLevels) (S := S_X1_weighLevels) CO_X1_weighLevels 400 52 [(0, .ref x0), (1, .long x1), (3, .int x3), (4, .int x4)] lv [] m (dc_sub_cons f0 (dc_sub_cons f1 (dc_sub_cons f3 (dc_sub_cons f4 (dc_sub_nil))))) ?_
    unfold d_X1_weighLevels_l52
    rw [dc_lp_eq]
    show (fun t x => dc_lf u N ab_M_X1_weighLevels (Φ (Option.bind t (dc_bk (d_X1_weighLevels_l52s x0 x1 x3)))) x) (d_X1_weighLevels_l52b x0 x1 x3 x4 m) _
    dsimp only
    unfold d_X1_weighLevels_l52b
    refine dg_s (pc' := 54) [.int x4] rfl (fun _ => rfl) rfl ?_
    refine dg_s (pc' := 55) [.ref x0, .int x4] rfl (fun _ => rfl) rfl ?_
    refine dg_s (pc' := 58) [.int (m.1 x0 1), .int x4] rfl (fun _ => rfl) rfl ?_
    refine dw_if (fun t => Φ (Option.bind t (dc_bk (d_X1_weighLevels_l52s x0 x1 x3)))) ((Int32.toInt (m.1 x0 1)) ≤ (Int32.toInt x4)) [] 131 61 rfl (fun _ => rfl) (fun c0 => ?_) (fun c0 => ?_)
    · exact dw_j rfl (fun lv1 hv => k_X1_weighLevels_b131 (Φ := (fun t => Φ (Option.bind (t.map (fun z => Sum.inr (z))) (dc_bk (d_X1_weighLevels_l52s x0 x1 x3))))) x0 x1 x3 m (fun _b => kR _b) k7 (hv.1 _ rfl) (hv.2.1 _ rfl) (hv.2.2.1 _ rfl))
    · refine dw_g rfl ?_
      refine dg_s (pc' := 62) [.ref x0] rfl (fun _ => rfl) rfl ?_
      refine dg_s (pc' := 65) [.ref (x0 + 4)] rfl (fun _ => rfl) rfl ?_
      refine dg_s (pc' := 67) [.int x4, .ref (x0 + 4)] rfl (fun _ => rfl) rfl ?_
      refine dg_s (pc' := 68) [.long (m.2.1 (x0 + 4) (Int32.toNatClampNeg x4))] rfl (fun _ => rfl) rfl ?_
      refine dg_s (pc' := 69) [.int x3, .long (m.2.1 (x0 + 4) (Int32.toNatClampNeg x4))] rfl (fun _ => rfl) rfl ?_
      refine dg_s (pc' := 70) [.long ((((m.2.1 (x0 + 4) (Int32.toNatClampNeg x4))).toUInt64 >>> ((Int32.toInt64 x3).toUInt64 &&& Int64.toUInt64 63)).toInt64)] rfl (fun _ => rfl) rfl ?_
      refine dg_s (pc' := 71) [.long (1 : Int64), .long ((((m.2.1 (x0 + 4) (Int32.toNatClampNeg x4))).toUInt64 >>> ((Int32.toInt64 x3).toUInt64 &&& Int64.toUInt64 63)).toInt64)] rfl (fun _ => rfl) rfl ?_
      refine dg_s (pc' := 72) [.long (((((m.2.1 (x0 + 4) (Int32.toNatClampNeg x4))).toUInt64 >>> ((Int32.toInt64 x3).toUInt64 &&& Int64.toUInt64 63)).toInt64) &&& (1 : Int64))] rfl (fun _ => rfl) rfl ?_
      refine dg_s (pc' := 73) [.long (0 : Int64), .long (((((m.2.1 (x0 + 4) (Int32.toNatClampNeg x4))).toUInt64 >>> ((Int32.toInt64 x3).toUInt64 &&& Int64.toUInt64 63)).toInt64) &&& (1 : Int64))] rfl (fun _ => rfl) rfl ?_
      refine dg_s (pc' := 74) [.int (lg_cmp (((((m.2.1 (x0 + 4) (Int32.toNatClampNeg x4))).toUInt64 >>> ((Int32.toInt64 x3).toUInt64 &&& Int64.toUInt64 63)).toInt64) &&& (1 : Int64)) (0 : Int64))] rfl (fun _ => rfl) rfl ?_
      refine dw_if (fun t => Φ (Option.bind t (dc_bk (d_X1_weighLevels_l52s x0 x1 x3)))) ((Int32.toInt (lg_cmp (((((m.2.1 (x0 + 4) (Int32.toNatClampNeg x4))).toUInt64 >>> ((Int32.toInt64 x3).toUInt64 &&& Int64.toUInt64 63)).toInt64) &&& (1 : Int64)) (0 : Int64))) = 0) [] 125 77 rfl (fun _ => rfl) (fun c1 => ?_) (fun c1 => ?_)
      · refine dw_g rfl ?_
        refine dg_L (pc' := 128) [(4, .int (x4 + (1 : Int32))), (0, .ref x0), (1, .long x1), (3, .int x3)] [] rfl (fun _ => rfl) rfl ?_
        refine dw_s (pc' := 52) [] rfl (fun _ => rfl) ?_
        exact dw_j rfl (fun lv1 hv => ih (x4 + (1 : Int32)) m lv1 (hv.1 _ rfl) (hv.2.1 _ rfl) (hv.2.2.1 _ rfl) (hv.2.2.2.1 _ rfl))
      · refine dw_g rfl ?_
        refine dg_s (pc' := 78) [.ref x0] rfl (fun _ => rfl) rfl ?_
        refine dg_s (pc' := 81) [.ref (x0 + 5)] rfl (fun _ => rfl) rfl ?_
        refine dg_s (pc' := 82) [.int x3, .ref (x0 + 5)] rfl (fun _ => rfl) rfl ?_
        refine dg_s (pc' := 83) [.int x3, .ref (x0 + 5), .int x3, .ref (x0 + 5)] rfl (fun _ => rfl) rfl ?_
        refine dg_s (pc' := 84) [.int (m.1 (x0 + 5) (Int32.toNatClampNeg x3)), .int x3, .ref (x0 + 5)] rfl (fun _ => rfl) rfl ?_
        refine dg_s (pc' := 85) [.int (1 : Int32), .int (m.1 (x0 + 5) (Int32.toNatClampNeg x3)), .int x3, .ref (x0 + 5)] rfl (fun _ => rfl) rfl ?_
        refine dg_s (pc' := 86) [.int ((m.1 (x0 + 5) (Int32.toNatClampNeg x3)) + (1 : Int32)), .int x3, .ref (x0 + 5)] rfl (fun _ => rfl) rfl ?_
        refine dg_m (pc' := 87) (dc_wi m (x0 + 5) (Int32.toNatClampNeg x3) ((m.1 (x0 + 5) (Int32.toNatClampNeg x3)) + (1 : Int32))) [] rfl (fun _ => rfl) rfl ?_
        refine dg_s (pc' := 88) [.ref x0] rfl (fun _ => rfl) rfl ?_
        refine dg_s (pc' := 91) [.ref (x0 + 6)] rfl (fun _ => rfl) rfl ?_
        refine dg_s (pc' := 92) [.int x3, .ref (x0 + 6)] rfl (fun _ => rfl) rfl ?_
        refine dg_s (pc' := 93) [.ref x0, .int x3, .ref (x0 + 6)] rfl (fun _ => rfl) rfl ?_
        refine dg_s (pc' := 96) [.ref (x0 + 6), .int x3, .ref (x0 + 6)] rfl (fun _ => rfl) rfl ?_
        refine dg_s (pc' := 97) [.int x3, .ref (x0 + 6), .int x3, .ref (x0 + 6)] rfl (fun _ => rfl) rfl ?_
        refine dg_s (pc' := 98) [.int ((dc_wi m (x0 + 5) (Int32.toNatClampNeg x3) ((m.1 (x0 + 5) (Int32.toNatClampNeg x3)) + (1 : Int32))).1 (x0 + 6) (Int32.toNatClampNeg x3)), .int x3, .ref (x0 + 6)] rfl (fun _ => rfl) rfl ?_
        refine dg_s (pc' := 99) [.ref x0, .int ((dc_wi m (x0 + 5) (Int32.toNatClampNeg x3) ((m.1 (x0 + 5) (Int32.toNatClampNeg x3)) + (1 : Int32))).1 (x0 + 6) (Int32.toNatClampNeg x3)), .int x3, .ref (x0 + 6)] rfl (fun _ => rfl) rfl ?_
        refine dg_s (pc' := 102) [.ref (x0 + 3), .int ((dc_wi m (x0 + 5) (Int32.toNatClampNeg x3) ((m.1 (x0 + 5) (Int32.toNatClampNeg x3)) + (1 : Int32))).1 (x0 + 6) (Int32.toNatClampNeg x3)), .int x3, .ref (x0 + 6)] rfl (fun _ => rfl) rfl ?_
        refine dg_s (pc' := 104) [.int x4, .ref (x0 + 3), .int ((dc_wi m (x0 + 5) (Int32.toNatClampNeg x3) ((m.1 (x0 + 5) (Int32.toNatClampNeg x3)) + (1 : Int32))).1 (x0 + 6) (Int32.toNatClampNeg x3)), .int x3, .ref (x0 + 6)] rfl (fun _ => rfl) rfl ?_
        refine dg_s (pc' := 105) [.int ((dc_wi m (x0 + 5) (Int32.toNatClampNeg x3) ((m.1 (x0 + 5) (Int32.toNatClampNeg x3)) + (1 : Int32))).1 (x0 + 3) (Int32.toNatClampNeg x4)), .int ((dc_wi m (x0 + 5) (Int32.toNatClampNeg x3) ((m.1 (x0 + 5) (Int32.toNatClampNeg x3)) + (1 : Int32))).1 (x0 + 6) (Int32.toNatClampNeg x3)), .int x3, .ref (x0 + 6)] rfl (fun _ => rfl) rfl ?_
        refine dg_s (pc' := 108) [.int (d_J9_min_7cf53 ((dc_wi m (x0 + 5) (Int32.toNatClampNeg x3) ((m.1 (x0 + 5) (Int32.toNatClampNeg x3)) + (1 : Int32))).1 (x0 + 6) (Int32.toNatClampNeg x3)) ((dc_wi m (x0 + 5) (Int32.toNatClampNeg x3) ((m.1 (x0 + 5) (Int32.toNatClampNeg x3)) + (1 : Int32))).1 (x0 + 3) (Int32.toNatClampNeg x4)) (dc_wi m (x0 + 5) (Int32.toNatClampNeg x3) ((m.1 (x0 + 5) (Int32.toNatClampNeg x3)) + (1 : Int32)))), .int x3, .ref (x0 + 6)] rfl (fun _ => rfl) rfl ?_
        refine dg_m (pc' := 109) (dc_wi (dc_wi m (x0 + 5) (Int32.toNatClampNeg x3) ((m.1 (x0 + 5) (Int32.toNatClampNeg x3)) + (1 : Int32))) (x0 + 6) (Int32.toNatClampNeg x3) (d_J9_min_7cf53 ((dc_wi m (x0 + 5) (Int32.toNatClampNeg x3) ((m.1 (x0 + 5) (Int32.toNatClampNeg x3)) + (1 : Int32))).1 (x0 + 6) (Int32.toNatClampNeg x3)) ((dc_wi m (x0 + 5) (Int32.toNatClampNeg x3) ((m.1 (x0 + 5) (Int32.toNatClampNeg x3)) + (1 : Int32))).1 (x0 + 3) (Int32.toNatClampNeg x4)) (dc_wi m (x0 + 5) (Int32.toNatClampNeg x3) ((m.1 (x0 + 5) (Int32.toNatClampNeg x3)) + (1 : Int32))))) [] rfl (fun _ => rfl) rfl ?_
        refine dg_s (pc' := 110) [.ref x0] rfl (fun _ => rfl) rfl ?_
        refine dg_s (pc' := 113) [.ref (x0 + 7)] rfl (fun _ => rfl) rfl ?_
        refine dg_s (pc' := 114) [.int x3, .ref (x0 + 7)] rfl (fun _ => rfl) rfl ?_
        refine dg_s (pc' := 115) [.int x3, .ref (x0 + 7), .int x3, .ref (x0 + 7)] rfl (fun _ => rfl) rfl ?_
        refine dg_s (pc' := 116) [.long ((dc_wi (dc_wi m (x0 + 5) (Int32.toNatClampNeg x3) ((m.1 (x0 + 5) (Int32.toNatClampNeg x3)) + (1 : Int32))) (x0 + 6) (Int32.toNatClampNeg x3) (d_J9_min_7cf53 ((dc_wi m (x0 + 5) (Int32.toNatClampNeg x3) ((m.1 (x0 + 5) (Int32.toNatClampNeg x3)) + (1 : Int32))).1 (x0 + 6) (Int32.toNatClampNeg x3)) ((dc_wi m (x0 + 5) (Int32.toNatClampNeg x3) ((m.1 (x0 + 5) (Int32.toNatClampNeg x3)) + (1 : Int32))).1 (x0 + 3) (Int32.toNatClampNeg x4)) (dc_wi m (x0 + 5) (Int32.toNatClampNeg x3) ((m.1 (x0 + 5) (Int32.toNatClampNeg x3)) + (1 : Int32))))).2.1 (x0 + 7) (Int32.toNatClampNeg x3)), .int x3, .ref (x0 + 7)] rfl (fun _ => rfl) rfl ?_
        refine dg_s (pc' := 117) [.ref x0, .long ((dc_wi (dc_wi m (x0 + 5) (Int32.toNatClampNeg x3) ((m.1 (x0 + 5) (Int32.toNatClampNeg x3)) + (1 : Int32))) (x0 + 6) (Int32.toNatClampNeg x3) (d_J9_min_7cf53 ((dc_wi m (x0 + 5) (Int32.toNatClampNeg x3) ((m.1 (x0 + 5) (Int32.toNatClampNeg x3)) + (1 : Int32))).1 (x0 + 6) (Int32.toNatClampNeg x3)) ((dc_wi m (x0 + 5) (Int32.toNatClampNeg x3) ((m.1 (x0 + 5) (Int32.toNatClampNeg x3)) + (1 : Int32))).1 (x0 + 3) (Int32.toNatClampNeg x4)) (dc_wi m (x0 + 5) (Int32.toNatClampNeg x3) ((m.1 (x0 + 5) (Int32.toNatClampNeg x3)) + (1 : Int32))))).2.1 (x0 + 7) (Int32.toNatClampNeg x3)), .int x3, .ref (x0 + 7)] rfl (fun _ => rfl) rfl ?_
        refine dg_s (pc' := 120) [.ref (x0 + 4), .long ((dc_wi (dc_wi m (x0 + 5) (Int32.toNatClampNeg x3) ((m.1 (x0 + 5) (Int32.toNatClampNeg x3)) + (1 : Int32))) (x0 + 6) (Int32.toNatClampNeg x3) (d_J9_min_7cf53 ((dc_wi m (x0 + 5) (Int32.toNatClampNeg x3) ((m.1 (x0 + 5) (Int32.toNatClampNeg x3)) + (1 : Int32))).1 (x0 + 6) (Int32.toNatClampNeg x3)) ((dc_wi m (x0 + 5) (Int32.toNatClampNeg x3) ((m.1 (x0 + 5) (Int32.toNatClampNeg x3)) + (1 : Int32))).1 (x0 + 3) (Int32.toNatClampNeg x4)) (dc_wi m (x0 + 5) (Int32.toNatClampNeg x3) ((m.1 (x0 + 5) (Int32.toNatClampNeg x3)) + (1 : Int32))))).2.1 (x0 + 7) (Int32.toNatClampNeg x3)), .int x3, .ref (x0 + 7)] rfl (fun _ => rfl) rfl ?_
        refine dg_s (pc' := 122) [.int x4, .ref (x0 + 4), .long ((dc_wi (dc_wi m (x0 + 5) (Int32.toNatClampNeg x3) ((m.1 (x0 + 5) (Int32.toNatClampNeg x3)) + (1 : Int32))) (x0 + 6) (Int32.toNatClampNeg x3) (d_J9_min_7cf53 ((dc_wi m (x0 + 5) (Int32.toNatClampNeg x3) ((m.1 (x0 + 5) (Int32.toNatClampNeg x3)) + (1 : Int32))).1 (x0 + 6) (Int32.toNatClampNeg x3)) ((dc_wi m (x0 + 5) (Int32.toNatClampNeg x3) ((m.1 (x0 + 5) (Int32.toNatClampNeg x3)) + (1 : Int32))).1 (x0 + 3) (Int32.toNatClampNeg x4)) (dc_wi m (x0 + 5) (Int32.toNatClampNeg x3) ((m.1 (x0 + 5) (Int32.toNatClampNeg x3)) + (1 : Int32))))).2.1 (x0 + 7) (Int32.toNatClampNeg x3)), .int x3, .ref (x0 + 7)] rfl (fun _ => rfl) rfl ?_
        refine dg_s (pc' := 123) [.long ((dc_wi (dc_wi m (x0 + 5) (Int32.toNatClampNeg x3) ((m.1 (x0 + 5) (Int32.toNatClampNeg x3)) + (1 : Int32))) (x0 + 6) (Int32.toNatClampNeg x3) (d_J9_min_7cf53 ((dc_wi m (x0 + 5) (Int32.toNatClampNeg x3) ((m.1 (x0 + 5) (Int32.toNatClampNeg x3)) + (1 : Int32))).1 (x0 + 6) (Int32.toNatClampNeg x3)) ((dc_wi m (x0 + 5) (Int32.toNatClampNeg x3) ((m.1 (x0 + 5) (Int32.toNatClampNeg x3)) + (1 : Int32))).1 (x0 + 3) (Int32.toNatClampNeg x4)) (dc_wi m (x0 + 5) (Int32.toNatClampNeg x3) ((m.1 (x0 + 5) (Int32.toNatClampNeg x3)) + (1 : Int32))))).2.1 (x0 + 4) (Int32.toNatClampNeg x4)), .long ((dc_wi (dc_wi m (x0 + 5) (Int32.toNatClampNeg x3) ((m.1 (x0 + 5) (Int32.toNatClampNeg x3)) + (1 : Int32))) (x0 + 6) (Int32.toNatClampNeg x3) (d_J9_min_7cf53 ((dc_wi m (x0 + 5) (Int32.toNatClampNeg x3) ((m.1 (x0 + 5) (Int32.toNatClampNeg x3)) + (1 : Int32))).1 (x0 + 6) (Int32.toNatClampNeg x3)) ((dc_wi m (x0 + 5) (Int32.toNatClampNeg x3) ((m.1 (x0 + 5) (Int32.toNatClampNeg x3)) + (1 : Int32))).1 (x0 + 3) (Int32.toNatClampNeg x4)) (dc_wi m (x0 + 5) (Int32.toNatClampNeg x3) ((m.1 (x0 + 5) (Int32.toNatClampNeg x3)) + (1 : Int32))))).2.1 (x0 + 7) (Int32.toNatClampNeg x3)), .int x3, .ref (x0 + 7)] rfl (fun _ => rfl) rfl ?_
        refine dg_s (pc' := 124) [.long (((dc_wi (dc_wi m (x0 + 5) (Int32.toNatClampNeg x3) ((m.1 (x0 + 5) (Int32.toNatClampNeg x3)) + (1 : Int32))) (x0 + 6) (Int32.toNatClampNeg x3) (d_J9_min_7cf53 ((dc_wi m (x0 + 5) (Int32.toNatClampNeg x3) ((m.1 (x0 + 5) (Int32.toNatClampNeg x3)) + (1 : Int32))).1 (x0 + 6) (Int32.toNatClampNeg x3)) ((dc_wi m (x0 + 5) (Int32.toNatClampNeg x3) ((m.1 (x0 + 5) (Int32.toNatClampNeg x3)) + (1 : Int32))).1 (x0 + 3) (Int32.toNatClampNeg x4)) (dc_wi m (x0 + 5) (Int32.toNatClampNeg x3) ((m.1 (x0 + 5) (Int32.toNatClampNeg x3)) + (1 : Int32))))).2.1 (x0 + 7) (Int32.toNatClampNeg x3)) ||| ((dc_wi (dc_wi m (x0 + 5) (Int32.toNatClampNeg x3) ((m.1 (x0 + 5) (Int32.toNatClampNeg x3)) + (1 : Int32))) (x0 + 6) (Int32.toNatClampNeg x3) (d_J9_min_7cf53 ((dc_wi m (x0 + 5) (Int32.toNatClampNeg x3) ((m.1 (x0 + 5) (Int32.toNatClampNeg x3)) + (1 : Int32))).1 (x0 + 6) (Int32.toNatClampNeg x3)) ((dc_wi m (x0 + 5) (Int32.toNatClampNeg x3) ((m.1 (x0 + 5) (Int32.toNatClampNeg x3)) + (1 : Int32))).1 (x0 + 3) (Int32.toNatClampNeg x4)) (dc_wi m (x0 + 5) (Int32.toNatClampNeg x3) ((m.1 (x0 + 5) (Int32.toNatClampNeg x3)) + (1 : Int32))))).2.1 (x0 + 4) (Int32.toNatClampNeg x4))), .int x3, .ref (x0 + 7)] rfl (fun _ => rfl) rfl ?_
        refine dg_m (pc' := 125) (dc_wl (dc_wi (dc_wi m (x0 + 5) (Int32.toNatClampNeg x3) ((m.1 (x0 + 5) (Int32.toNatClampNeg x3)) + (1 : Int32))) (x0 + 6) (Int32.toNatClampNeg x3) (d_J9_min_7cf53 ((dc_wi m (x0 + 5) (Int32.toNatClampNeg x3) ((m.1 (x0 + 5) (Int32.toNatClampNeg x3)) + (1 : Int32))).1 (x0 + 6) (Int32.toNatClampNeg x3)) ((dc_wi m (x0 + 5) (Int32.toNatClampNeg x3) ((m.1 (x0 + 5) (Int32.toNatClampNeg x3)) + (1 : Int32))).1 (x0 + 3) (Int32.toNatClampNeg x4)) (dc_wi m (x0 + 5) (Int32.toNatClampNeg x3) ((m.1 (x0 + 5) (Int32.toNatClampNeg x3)) + (1 : Int32))))) (x0 + 7) (Int32.toNatClampNeg x3) (((dc_wi (dc_wi m (x0 + 5) (Int32.toNatClampNeg x3) ((m.1 (x0 + 5) (Int32.toNatClampNeg x3)) + (1 : Int32))) (x0 + 6) (Int32.toNatClampNeg x3) (d_J9_min_7cf53 ((dc_wi m (x0 + 5) (Int32.toNatClampNeg x3) ((m.1 (x0 + 5) (Int32.toNatClampNeg x3)) + (1 : Int32))).1 (x0 + 6) (Int32.toNatClampNeg x3)) ((dc_wi m (x0 + 5) (Int32.toNatClampNeg x3) ((m.1 (x0 + 5) (Int32.toNatClampNeg x3)) + (1 : Int32))).1 (x0 + 3) (Int32.toNatClampNeg x4)) (dc_wi m (x0 + 5) (Int32.toNatClampNeg x3) ((m.1 (x0 + 5) (Int32.toNatClampNeg x3)) + (1 : Int32))))).2.1 (x0 + 7) (Int32.toNatClampNeg x3)) ||| ((dc_wi (dc_wi m (x0 + 5) (Int32.toNatClampNeg x3) ((m.1 (x0 + 5) (Int32.toNatClampNeg x3)) + (1 : Int32))) (x0 + 6) (Int32.toNatClampNeg x3) (d_J9_min_7cf53 ((dc_wi m (x0 + 5) (Int32.toNatClampNeg x3) ((m.1 (x0 + 5) (Int32.toNatClampNeg x3)) + (1 : Int32))).1 (x0 + 6) (Int32.toNatClampNeg x3)) ((dc_wi m (x0 + 5) (Int32.toNatClampNeg x3) ((m.1 (x0 + 5) (Int32.toNatClampNeg x3)) + (1 : Int32))).1 (x0 + 3) (Int32.toNatClampNeg x4)) (dc_wi m (x0 + 5) (Int32.toNatClampNeg x3) ((m.1 (x0 + 5) (Int32.toNatClampNeg x3)) + (1 : Int32))))).2.1 (x0 + 4) (Int32.toNatClampNeg x4)))) [] rfl (fun _ => rfl) rfl ?_
        refine dg_L (pc' := 128) [(4, .int (x4 + (1 : Int32))), (0, .ref x0), (1, .long x1), (3, .int x3)] [] rfl (fun _ => rfl) rfl ?_
        refine dw_s (pc' := 52) [] rfl (fun _ => rfl) ?_
        exact dw_j rfl (fun lv1 hv => ih (x4 + (1 : Int32)) (dc_wl (dc_wi (dc_wi m (x0 + 5) (Int32.toNatClampNeg x3) ((m.1 (x0 + 5) (Int32.toNatClampNeg x3)) + (1 : Int32))) (x0 + 6) (Int32.toNatClampNeg x3) (d_J9_min_7cf53 ((dc_wi m (x0 + 5) (Int32.toNatClampNeg x3) ((m.1 (x0 + 5) (Int32.toNatClampNeg x3)) + (1 : Int32))).1 (x0 + 6) (Int32.toNatClampNeg x3)) ((dc_wi m (x0 + 5) (Int32.toNatClampNeg x3) ((m.1 (x0 + 5) (Int32.toNatClampNeg x3)) + (1 : Int32))).1 (x0 + 3) (Int32.toNatClampNeg x4)) (dc_wi m (x0 + 5) (Int32.toNatClampNeg x3) ((m.1 (x0 + 5) (Int32.toNatClampNeg x3)) + (1 : Int32))))) (x0 + 7) (Int32.toNatClampNeg x3) (((dc_wi (dc_wi m (x0 + 5) (Int32.toNatClampNeg x3) ((m.1 (x0 + 5) (Int32.toNatClampNeg x3)) + (1 : Int32))) (x0 + 6) (Int32.toNatClampNeg x3) (d_J9_min_7cf53 ((dc_wi m (x0 + 5) (Int32.toNatClampNeg x3) ((m.1 (x0 + 5) (Int32.toNatClampNeg x3)) + (1 : Int32))).1 (x0 + 6) (Int32.toNatClampNeg x3)) ((dc_wi m (x0 + 5) (Int32.toNatClampNeg x3) ((m.1 (x0 + 5) (Int32.toNatClampNeg x3)) + (1 : Int32))).1 (x0 + 3) (Int32.toNatClampNeg x4)) (dc_wi m (x0 + 5) (Int32.toNatClampNeg x3) ((m.1 (x0 + 5) (Int32.toNatClampNeg x3)) + (1 : Int32))))).2.1 (x0 + 7) (Int32.toNatClampNeg x3)) ||| ((dc_wi (dc_wi m (x0 + 5) (Int32.toNatClampNeg x3) ((m.1 (x0 + 5) (Int32.toNatClampNeg x3)) + (1 : Int32))) (x0 + 6) (Int32.toNatClampNeg x3) (d_J9_min_7cf53 ((dc_wi m (x0 + 5) (Int32.toNatClampNeg x3) ((m.1 (x0 + 5) (Int32.toNatClampNeg x3)) + (1 : Int32))).1 (x0 + 6) (Int32.toNatClampNeg x3)) ((dc_wi m (x0 + 5) (Int32.toNatClampNeg x3) ((m.1 (x0 + 5) (Int32.toNatClampNeg x3)) + (1 : Int32))).1 (x0 + 3) (Int32.toNatClampNeg x4)) (dc_wi m (x0 + 5) (Int32.toNatClampNeg x3) ((m.1 (x0 + 5) (Int32.toNatClampNeg x3)) + (1 : Int32))))).2.1 (x0 + 4) (Int32.toNatClampNeg x4)))) lv1 (hv.1 _ rfl) (hv.2.1 _ rfl) (hv.2.2.1 _ rfl) (hv.2.2.2.1 _ rfl))
noncomputable def d_X1_weighLevels_l7b (x0 : Nat) (x1 : Int64) (x3 : Int32) (m : dc_M) : Option ((Int32 × dc_M) ⊕ dc_M) :=
  (if 64 ≤ (Int32.toInt x3) then some (Sum.inr (m)) else (if ¬ (Int32.toInt (lg_cmp ((((x1).toUInt64 >>> ((Int32.toInt64 x3).toUInt64 &&& Int64.toUInt64 63)).toInt64) &&& (1 : Int64)) (0 : Int64))) = 0 then (d_X1_weighLevels_l52 x0 x1 x3 (0 : Int32) (dc_wl (dc_wi (dc_wi m (x0 + 5) (Int32.toNatClampNeg x3) (0 : Int32)) (x0 + 6) (Int32.toNatClampNeg x3) (8448 : Int32)) (x0 + 7) (Int32.toNatClampNeg x3) (0 : Int64))) else some (Sum.inl ((x3 + (1 : Int32)), (dc_wl (dc_wi (dc_wi m (x0 + 5) (Int32.toNatClampNeg x3) (0 : Int32)) (x0 + 6) (Int32.toNatClampNeg x3) (8448 : Int32)) (x0 + 7) (Int32.toNatClampNeg x3) (0 : Int64))))))
noncomputable def d_X1_weighLevels_l7s (x0 : Nat) (x1 : Int64) : (Int32 × dc_M) → Option ((Int32 × dc_M) ⊕ dc_M) := fun s => d_X1_weighLevels_l7b x0 x1 s.1 s.2
noncomputable def d_X1_weighLevels_l7 (x0 : Nat) (x1 : Int64) (x3 : Int32) (m : dc_M) : Option dc_M := dc_lp (d_X1_weighLevels_l7s x0 x1) (x3, m)
set_option maxHeartbeats 8000000 in
theorem k_X1_weighLevels_l7 {u : Nat} {Φ : (Option dc_M) → Option Value → dc_M → Prop} (x0 : Nat) (x1 : Int64) (kR : ∀  (m : dc_M), Φ (some (m)) (none) m) : ∀ (N : Nat), ∀ (x3 : Int32) (m : dc_M) (lv : ab_L), ab_lk lv 0 = some (.ref x0) → ab_lk lv 1 = some (.long x1) → ab_lk lv 3 = some (.int x3) → dc_pv u N ab_M_X1_weighLevels 7 lv [] m (Φ (d_X1_weighLevels_l7 x0 x1 x3 m)) := by
  intro N
  induction N with
  | zero => intros; exact dc_pv_zero
  | succ N ih =>
    intro x3 m lv f0 f1 f3
    refine dc_ok (C := C_X1_weighLevels) (S := S_X1_weighLevels) CO_X1_weighLevels 400 7 [(0, .ref x0), (1, .long x1), (3, .int x3)] lv [] m (dc_sub_cons f0 (dc_sub_cons f1 (dc_sub_cons f3 (dc_sub_nil)))) ?_
    unfold d_X1_weighLevels_l7
    rw [dc_lp_eq]
    show (fun t x => dc_lf u N ab_M_X1_weighLevels (Φ (Option.bind t (dc_bk (d_X1_weighLevels_l7s x0 x1)))) x) (d_X1_weighLevels_l7b x0 x1 x3 m) _
    dsimp only
    unfold d_X1_weighLevels_l7b
    refine dg_s (pc' := 8) [.int x3] rfl (fun _ => rfl) rfl ?_
    refine dg_s (pc' := 10) [.int (64 : Int32), .int x3] rfl (fun _ => rfl) rfl ?_
    refine dw_if (fun t => Φ (Option.bind t (dc_bk (d_X1_weighLevels_l7s x0 x1)))) (64 ≤ (Int32.toInt x3)) [] 142 13 rfl (fun _ => rfl) (fun c0 => ?_) (fun c0 => ?_)
    · refine dw_g rfl ?_
      exact dw_r (some (.inl (none, m))) rfl (fun _ => rfl) (kR _)
    · refine dw_g rfl ?_
      refine dg_s (pc' := 14) [.ref x0] rfl (fun _ => rfl) rfl ?_
      refine dg_s (pc' := 17) [.ref (x0 + 5)] rfl (fun _ => rfl) rfl ?_
      refine dg_s (pc' := 18) [.int x3, .ref (x0 + 5)] rfl (fun _ => rfl) rfl ?_
      refine dg_s (pc' := 19) [.int (0 : Int32), .int x3, .ref (x0 + 5)] rfl (fun _ => rfl) rfl ?_
      refine dg_m (pc' := 20) (dc_wi m (x0 + 5) (Int32.toNatClampNeg x3) (0 : Int32)) [] rfl (fun _ => rfl) rfl ?_
      refine dg_s (pc' := 21) [.ref x0] rfl (fun _ => rfl) rfl ?_
      refine dg_s (pc' := 24) [.ref (x0 + 6)] rfl (fun _ => rfl) rfl ?_
      refine dg_s (pc' := 25) [.int x3, .ref (x0 + 6)] rfl (fun _ => rfl) rfl ?_
      refine dg_s (pc' := 28) [.int (8448 : Int32), .int x3, .ref (x0 + 6)] rfl (fun _ => rfl) rfl ?_
      refine dg_m (pc' := 29) (dc_wi (dc_wi m (x0 + 5) (Int32.toNatClampNeg x3) (0 : Int32)) (x0 + 6) (Int32.toNatClampNeg x3) (8448 : Int32)) [] rfl (fun _ => rfl) rfl ?_
      refine dg_s (pc' := 30) [.ref x0] rfl (fun _ => rfl) rfl ?_
      refine dg_s (pc' := 33) [.ref (x0 + 7)] rfl (fun _ => rfl) rfl ?_
      refine dg_s (pc' := 34) [.int x3, .ref (x0 + 7)] rfl (fun _ => rfl) rfl ?_
      refine dg_s (pc' := 35) [.long (0 : Int64), .int x3, .ref (x0 + 7)] rfl (fun _ => rfl) rfl ?_
      refine dg_m (pc' := 36) (dc_wl (dc_wi (dc_wi m (x0 + 5) (Int32.toNatClampNeg x3) (0 : Int32)) (x0 + 6) (Int32.toNatClampNeg x3) (8448 : Int32)) (x0 + 7) (Int32.toNatClampNeg x3) (0 : Int64)) [] rfl (fun _ => rfl) rfl ?_
      refine dg_s (pc' := 37) [.long x1] rfl (fun _ => rfl) rfl ?_
      refine dg_s (pc' := 38) [.int x3, .long x1] rfl (fun _ => rfl) rfl ?_
      refine dg_s (pc' := 39) [.long (((x1).toUInt64 >>> ((Int32.toInt64 x3).toUInt64 &&& Int64.toUInt64 63)).toInt64)] rfl (fun _ => rfl) rfl ?_
      refine dg_s (pc' := 40) [.long (1 : Int64), .long (((x1).toUInt64 >>> ((Int32.toInt64 x3).toUInt64 &&& Int64.toUInt64 63)).toInt64)] rfl (fun _ => rfl) rfl ?_
      refine dg_s (pc' := 41) [.long ((((x1).toUInt64 >>> ((Int32.toInt64 x3).toUInt64 &&& Int64.toUInt64 63)).toInt64) &&& (1 : Int64))] rfl (fun _ => rfl) rfl ?_
      refine dg_s (pc' := 42) [.long (0 : Int64), .long ((((x1).toUInt64 >>> ((Int32.toInt64 x3).toUInt64 &&& Int64.toUInt64 63)).toInt64) &&& (1 : Int64))] rfl (fun _ => rfl) rfl ?_
      refine dg_s (pc' := 43) [.int (lg_cmp ((((x1).toUInt64 >>> ((Int32.toInt64 x3).toUInt64 &&& Int64.toUInt64 63)).toInt64) &&& (1 : Int64)) (0 : Int64))] rfl (fun _ => rfl) rfl ?_
      refine dw_if (fun t => Φ (Option.bind t (dc_bk (d_X1_weighLevels_l7s x0 x1)))) (¬ (Int32.toInt (lg_cmp ((((x1).toUInt64 >>> ((Int32.toInt64 x3).toUInt64 &&& Int64.toUInt64 63)).toInt64) &&& (1 : Int64)) (0 : Int64))) = 0) [] 49 46 rfl (fun _ => rfl) (fun c1 => ?_) (fun c1 => ?_)
      · refine dw_g rfl ?_
        refine dg_s (pc' := 50) [.int (0 : Int32)] rfl (fun _ => rfl) rfl ?_
        refine dw_L (pc' := 52) [(4, .int (0 : Int32)), (0, .ref x0), (1, .long x1), (3, .int x3)] [] rfl (fun _ => rfl) ?_
        exact dw_j rfl (fun lv1 hv => k_X1_weighLevels_l52 (Φ := (fun t => Φ (Option.bind t (dc_bk (d_X1_weighLevels_l7s x0 x1))))) x0 x1 x3 (fun _b => kR _b) N ih (0 : Int32) (dc_wl (dc_wi (dc_wi m (x0 + 5) (Int32.toNatClampNeg x3) (0 : Int32)) (x0 + 6) (Int32.toNatClampNeg x3) (8448 : Int32)) (x0 + 7) (Int32.toNatClampNeg x3) (0 : Int64)) lv1 (hv.1 _ rfl) (hv.2.1 _ rfl) (hv.2.2.1 _ rfl) (hv.2.2.2.1 _ rfl))
      · refine dw_g rfl ?_
        refine dg_s (pc' := 136) [] rfl (fun _ => rfl) rfl ?_
        refine dg_L (pc' := 139) [(3, .int (x3 + (1 : Int32))), (0, .ref x0), (1, .long x1)] [] rfl (fun _ => rfl) rfl ?_
        refine dw_s (pc' := 7) [] rfl (fun _ => rfl) ?_
        exact dw_j rfl (fun lv1 hv => ih (x3 + (1 : Int32)) (dc_wl (dc_wi (dc_wi m (x0 + 5) (Int32.toNatClampNeg x3) (0 : Int32)) (x0 + 6) (Int32.toNatClampNeg x3) (8448 : Int32)) (x0 + 7) (Int32.toNatClampNeg x3) (0 : Int64)) lv1 (hv.1 _ rfl) (hv.2.1 _ rfl) (hv.2.2.1 _ rfl))
noncomputable def d_X1_weighLevels (x0 : Nat) (x1 : Int64) (m : dc_M) : Option dc_M :=
  (d_X1_weighLevels_l7 x0 x1 (0 : Int32) (dc_wi m x0 9 (0 : Int32)))
set_option maxHeartbeats 8000000 in
theorem k_X1_weighLevels {u : Nat} {N : Nat} {Φ : (Option dc_M) → Option Value → dc_M → Prop} (x0 : Nat) (x1 : Int64) (m : dc_M) (kR : ∀  (m : dc_M), Φ (some (m)) (none) m)  {lv : ab_L} (f0 : ab_lk lv 0 = some (.ref x0)) (f1 : ab_lk lv 1 = some (.long x1)) : dc_pv u N ab_M_X1_weighLevels 0 lv [] m (Φ (d_X1_weighLevels x0 x1 m)) := by
  refine dc_pv.mono (dc_ok (C := C_X1_weighLevels) (S := S_X1_weighLevels) CO_X1_weighLevels 400 0 [(0, .ref x0), (1, .long x1)] lv [] m (dc_sub_cons f0 (dc_sub_cons f1 (dc_sub_nil))) ?_) (Nat.le_succ N)
  unfold d_X1_weighLevels
  refine dg_s (pc' := 1) [.ref x0] rfl (fun _ => rfl) rfl ?_
  refine dg_s (pc' := 2) [.int (0 : Int32), .ref x0] rfl (fun _ => rfl) rfl ?_
  refine dg_m (pc' := 5) (dc_wi m x0 9 (0 : Int32)) [] rfl (fun _ => rfl) rfl ?_
  refine dg_s (pc' := 6) [.int (0 : Int32)] rfl (fun _ => rfl) rfl ?_
  refine dw_L (pc' := 7) [(3, .int (0 : Int32)), (0, .ref x0), (1, .long x1)] [] rfl (fun _ => rfl) ?_
  exact dw_j rfl (fun lv1 hv => k_X1_weighLevels_l7 (Φ := (fun t => Φ t)) x0 x1 (fun _b => kR _b) N  (0 : Int32) (dc_wi m x0 9 (0 : Int32)) lv1 (hv.1 _ rfl) (hv.2.1 _ rfl) (hv.2.2.1 _ rfl))
noncomputable def H_X1_weighLevels : dc_H := fun As m k => match As with
  | [.ref x0, .long x1] => (d_X1_weighLevels x0 x1 m).bind (fun q => k (none) q)
  | _ => dc_kz
theorem H_X1_weighLevels_ok {u : Nat} : dc_cok u 9 H_X1_weighLevels := fun M' hG N As m k P hz hP => by
  obtain rfl : ab_M_X1_weighLevels = M' := Option.some.inj hG
  unfold H_X1_weighLevels at hP
  split at hP
  · rename_i x0 x1
    exact dc_pv.imp (k_X1_weighLevels (Φ := fun (t : Option dc_M) r m' => P (t.bind (fun q => k (none) q)) → P (k r m')) x0 x1 m (fun _ h => h) rfl rfl) (fun r m' h => h hP)
  · exact absurd hP hz
def C_X8_lettersOf : List (Nat × dc_H) := []
theorem CO_X8_lettersOf {u : Nat} : dc_CO u C_X8_lettersOf := dc_CO_nil
def S_X8_lettersOf : List (Nat × List Nat) := [(7, [1, 2, 3, 4])]
noncomputable def d_X8_lettersOf_l7b (x1 : Int32) (x2 : Int32) (x3 : Int32) (x4 : Int32) (m : dc_M) : Option ((Int32 × Int32 × Int32) ⊕ Int32) :=
  (if (Int32.toInt x1) ≤ (Int32.toInt x4) then some (Sum.inr (x2)) else (if (Int32.toInt (x3 - x3 / (3 : Int32) * (3 : Int32))) = 2 then some (Sum.inl (x2, (x3 / (3 : Int32)), (x4 + (1 : Int32)))) else some (Sum.inl ((x2 + (1 : Int32)), (x3 / (3 : Int32)), (x4 + (1 : Int32))))))
noncomputable def d_X8_lettersOf_l7s (x1 : Int32) (m : dc_M) : (Int32 × Int32 × Int32) → Option ((Int32 × Int32 × Int32) ⊕ Int32) := fun s => d_X8_lettersOf_l7b x1 s.1 s.2.1 s.2.2 m
noncomputable def d_X8_lettersOf_l7 (x1 : Int32) (x2 : Int32) (x3 : Int32) (x4 : Int32) (m : dc_M) : Option Int32 := dc_lp (d_X8_lettersOf_l7s x1 m) (x2, x3, x4)
set_option maxHeartbeats 8000000 in
theorem k_X8_lettersOf_l7 {u : Nat} {Φ : (Option Int32) → Option Value → dc_M → Prop} (x1 : Int32) (m : dc_M) (kR : ∀ (v : Int32), Φ (some (v)) (some (.int v)) m) : ∀ (N : Nat), ∀ (x2 : Int32) (x3 : Int32) (x4 : Int32) (lv : ab_L), ab_lk lv 1 = some (.int x1) → ab_lk lv 2 = some (.int x2) → ab_lk lv 3 = some (.int x3) → ab_lk lv 4 = some (.int x4) → dc_pv u N ab_M_X8_lettersOf 7 lv [] m (Φ (d_X8_lettersOf_l7 x1 x2 x3 x4 m)) := by
  intro N
  induction N with
  | zero => intros; exact dc_pv_zero
  | succ N ih =>
    intro x2 x3 x4 lv f1 f2 f3 f4
    refine dc_ok (C := C_X8_lettersOf) (S := S_X8_lettersOf) CO_X8_lettersOf 400 7 [(1, .int x1), (2, .int x2), (3, .int x3), (4, .int x4)] lv [] m (dc_sub_cons f1 (dc_sub_cons f2 (dc_sub_cons f3 (dc_sub_cons f4 (dc_sub_nil))))) ?_
    unfold d_X8_lettersOf_l7
    rw [dc_lp_eq]
    show (fun t x => dc_lf u N ab_M_X8_lettersOf (Φ (Option.bind t (dc_bk (d_X8_lettersOf_l7s x1 m)))) x) (d_X8_lettersOf_l7b x1 x2 x3 x4 m) _
    dsimp only
    unfold d_X8_lettersOf_l7b
    refine dg_s (pc' := 9) [.int x4] rfl (fun _ => rfl) rfl ?_
    refine dg_s (pc' := 10) [.int x1, .int x4] rfl (fun _ => rfl) rfl ?_
    refine dw_if (fun t => Φ (Option.bind t (dc_bk (d_X8_lettersOf_l7s x1 m)))) ((Int32.toInt x1) ≤ (Int32.toInt x4)) [] 33 13 rfl (fun _ => rfl) (fun c0 => ?_) (fun c0 => ?_)
    · refine dw_g rfl ?_
      refine dg_s (pc' := 34) [.int x2] rfl (fun _ => rfl) rfl ?_
      exact dw_r (some (.inl (some (.int x2), m))) rfl (fun _ => rfl) (kR _)
    · refine dw_g rfl ?_
      refine dg_s (pc' := 14) [.int x3] rfl (fun _ => rfl) rfl ?_
      refine dg_s (pc' := 15) [.int (3 : Int32), .int x3] rfl (fun _ => rfl) rfl ?_
      refine dg_s (pc' := 16) [.int (x3 - x3 / (3 : Int32) * (3 : Int32))] rfl (fun _ => rfl) rfl ?_
      refine dg_s (pc' := 17) [.int (2 : Int32), .int (x3 - x3 / (3 : Int32) * (3 : Int32))] rfl (fun _ => rfl) rfl ?_
      refine dw_if (fun t => Φ (Option.bind t (dc_bk (d_X8_lettersOf_l7s x1 m)))) ((Int32.toInt (x3 - x3 / (3 : Int32) * (3 : Int32))) = 2) [] 23 20 rfl (fun _ => rfl) (fun c1 => ?_) (fun c1 => ?_)
      · refine dw_g rfl ?_
        refine dg_s (pc' := 24) [.int x3] rfl (fun _ => rfl) rfl ?_
        refine dg_s (pc' := 25) [.int (3 : Int32), .int x3] rfl (fun _ => rfl) rfl ?_
        refine dg_s (pc' := 26) [.int (x3 / (3 : Int32))] rfl (fun _ => rfl) rfl ?_
        refine dg_L (pc' := 27) [(3, .int (x3 / (3 : Int32))), (1, .int x1), (2, .int x2), (4, .int x4)] [] rfl (fun _ => rfl) rfl ?_
        refine dg_L (pc' := 30) [(4, .int (x4 + (1 : Int32))), (3, .int (x3 / (3 : Int32))), (1, .int x1), (2, .int x2)] [] rfl (fun _ => rfl) rfl ?_
        refine dw_s (pc' := 7) [] rfl (fun _ => rfl) ?_
        exact dw_j rfl (fun lv1 hv => ih x2 (x3 / (3 : Int32)) (x4 + (1 : Int32)) lv1 (hv.1 _ rfl) (hv.2.1 _ rfl) (hv.2.2.1 _ rfl) (hv.2.2.2.1 _ rfl))
      · refine dw_g rfl ?_
        refine dg_L (pc' := 23) [(2, .int (x2 + (1 : Int32))), (1, .int x1), (3, .int x3), (4, .int x4)] [] rfl (fun _ => rfl) rfl ?_
        refine dg_s (pc' := 24) [.int x3] rfl (fun _ => rfl) rfl ?_
        refine dg_s (pc' := 25) [.int (3 : Int32), .int x3] rfl (fun _ => rfl) rfl ?_
        refine dg_s (pc' := 26) [.int (x3 / (3 : Int32))] rfl (fun _ => rfl) rfl ?_
        refine dg_L (pc' := 27) [(3, .int (x3 / (3 : Int32))), (2, .int (x2 + (1 : Int32))), (1, .int x1), (4, .int x4)] [] rfl (fun _ => rfl) rfl ?_
        refine dg_L (pc' := 30) [(4, .int (x4 + (1 : Int32))), (3, .int (x3 / (3 : Int32))), (2, .int (x2 + (1 : Int32))), (1, .int x1)] [] rfl (fun _ => rfl) rfl ?_
        refine dw_s (pc' := 7) [] rfl (fun _ => rfl) ?_
        exact dw_j rfl (fun lv1 hv => ih (x2 + (1 : Int32)) (x3 / (3 : Int32)) (x4 + (1 : Int32)) lv1 (hv.1 _ rfl) (hv.2.1 _ rfl) (hv.2.2.1 _ rfl) (hv.2.2.2.1 _ rfl))
noncomputable def d_X8_lettersOf (x0 : Int32) (x1 : Int32) (m : dc_M) : Option Int32 :=
  (d_X8_lettersOf_l7 x1 (0 : Int32) x0 (0 : Int32) m)
set_option maxHeartbeats 8000000 in
theorem k_X8_lettersOf {u : Nat} {N : Nat} {Φ : (Option Int32) → Option Value → dc_M → Prop} (x0 : Int32) (x1 : Int32) (m : dc_M) (kR : ∀ (v : Int32), Φ (some (v)) (some (.int v)) m)  {lv : ab_L} (f0 : ab_lk lv 0 = some (.int x0)) (f1 : ab_lk lv 1 = some (.int x1)) : dc_pv u N ab_M_X8_lettersOf 0 lv [] m (Φ (d_X8_lettersOf x0 x1 m)) := by
  refine dc_pv.mono (dc_ok (C := C_X8_lettersOf) (S := S_X8_lettersOf) CO_X8_lettersOf 400 0 [(0, .int x0), (1, .int x1)] lv [] m (dc_sub_cons f0 (dc_sub_cons f1 (dc_sub_nil))) ?_) (Nat.le_succ N)
  unfold d_X8_lettersOf
  refine dg_s (pc' := 1) [.int (0 : Int32)] rfl (fun _ => rfl) rfl ?_
  refine dg_L (pc' := 2) [(2, .int (0 : Int32)), (0, .int x0), (1, .int x1)] [] rfl (fun _ => rfl) rfl ?_
  refine dg_s (pc' := 3) [.int x0] rfl (fun _ => rfl) rfl ?_
  refine dg_L (pc' := 4) [(3, .int x0), (2, .int (0 : Int32)), (0, .int x0), (1, .int x1)] [] rfl (fun _ => rfl) rfl ?_
  refine dg_s (pc' := 5) [.int (0 : Int32)] rfl (fun _ => rfl) rfl ?_
  refine dw_L (pc' := 7) [(4, .int (0 : Int32)), (3, .int x0), (2, .int (0 : Int32)), (0, .int x0), (1, .int x1)] [] rfl (fun _ => rfl) ?_
  exact dw_j rfl (fun lv1 hv => k_X8_lettersOf_l7 (Φ := (fun t => Φ t)) x1 m (fun _a  => kR _a) N  (0 : Int32) x0 (0 : Int32) lv1 (hv.1 _ rfl) (hv.2.1 _ rfl) (hv.2.2.1 _ rfl) (hv.2.2.2.1 _ rfl))
noncomputable def H_X8_lettersOf : dc_H := fun As m k => match As with
  | [.int x0, .int x1] => (d_X8_lettersOf x0 x1 m).bind (fun q => k (some (.int q)) m)
  | _ => dc_kz
theorem H_X8_lettersOf_ok {u : Nat} : dc_cok u 99 H_X8_lettersOf := fun M' hG N As m k P hz hP => by
  obtain rfl : ab_M_X8_lettersOf = M' := Option.some.inj hG
  unfold H_X8_lettersOf at hP
  split at hP
  · rename_i x0 x1
    exact dc_pv.imp (k_X8_lettersOf (Φ := fun (t : Option Int32) r m' => P (t.bind (fun q => k (some (.int q)) m)) → P (k r m')) x0 x1 m (fun _  h => h) rfl rfl) (fun r m' h => h hP)
  · exact absurd hP hz
def C_X8_levelsIn : List (Nat × dc_H) := []
theorem CO_X8_levelsIn {u : Nat} : dc_CO u C_X8_levelsIn := dc_CO_nil
def S_X8_levelsIn : List (Nat × List Nat) := [(26, [1, 2, 4, 5])]
noncomputable def d_X8_levelsIn_l26b (x1 : Int32) (x2 : Int64) (x4 : Int32) (x5 : Int32) (m : dc_M) : Option ((Int64 × Int32 × Int32) ⊕ Int64) :=
  (if (Int32.toInt x1) ≤ (Int32.toInt x5) then some (Sum.inr (x2)) else (if 6 ≤ (Int32.toInt x5) then some (Sum.inr (x2)) else (if ¬ (Int32.toInt (x4 - x4 / (3 : Int32) * (3 : Int32))) = 0 then (if ¬ (Int32.toInt (x4 - x4 / (3 : Int32) * (3 : Int32))) = 1 then some (Sum.inl (x2, (x4 / (3 : Int32)), (x5 + (1 : Int32)))) else some (Sum.inl ((x2 &&& (ab_hi (Int32.toNatClampNeg x5))), (x4 / (3 : Int32)), (x5 + (1 : Int32))))) else some (Sum.inl ((x2 &&& ((ab_hi (Int32.toNatClampNeg x5)) ^^^ (-1 : Int64))), (x4 / (3 : Int32)), (x5 + (1 : Int32)))))))
noncomputable def d_X8_levelsIn_l26s (x1 : Int32) (m : dc_M) : (Int64 × Int32 × Int32) → Option ((Int64 × Int32 × Int32) ⊕ Int64) := fun s => d_X8_levelsIn_l26b x1 s.1 s.2.1 s.2.2 m
noncomputable def d_X8_levelsIn_l26 (x1 : Int32) (x2 : Int64) (x4 : Int32) (x5 : Int32) (m : dc_M) : Option Int64 := dc_lp (d_X8_levelsIn_l26s x1 m) (x2, x4, x5)
set_option maxHeartbeats 8000000 in
theorem k_X8_levelsIn_l26 {u : Nat} {Φ : (Option Int64) → Option Value → dc_M → Prop} (x1 : Int32) (m : dc_M) (kR : ∀ (v : Int64), Φ (some (v)) (some (.long v)) m) : ∀ (N : Nat), ∀ (x2 : Int64) (x4 : Int32) (x5 : Int32) (lv : ab_L), ab_lk lv 1 = some (.int x1) → ab_lk lv 2 = some (.long x2) → ab_lk lv 4 = some (.int x4) → ab_lk lv 5 = some (.int x5) → dc_pv u N ab_M_X8_levelsIn 26 lv [] m (Φ (d_X8_levelsIn_l26 x1 x2 x4 x5 m)) := by
  intro N
  induction N with
  | zero => intros; exact dc_pv_zero
  | succ N ih =>
    intro x2 x4 x5 lv f1 f2 f4 f5
    refine dc_ok (C := C_X8_levelsIn) (S := S_X8_levelsIn) CO_X8_levelsIn 400 26 [(1, .int x1), (2, .long x2), (4, .int x4), (5, .int x5)] lv [] m (dc_sub_cons f1 (dc_sub_cons f2 (dc_sub_cons f4 (dc_sub_cons f5 (dc_sub_nil))))) ?_
    unfold d_X8_levelsIn_l26
    rw [dc_lp_eq]
    show (fun t x => dc_lf u N ab_M_X8_levelsIn (Φ (Option.bind t (dc_bk (d_X8_levelsIn_l26s x1 m)))) x) (d_X8_levelsIn_l26b x1 x2 x4 x5 m) _
    dsimp only
    unfold d_X8_levelsIn_l26b
    refine dg_s (pc' := 28) [.int x5] rfl (fun _ => rfl) rfl ?_
    refine dg_s (pc' := 29) [.int x1, .int x5] rfl (fun _ => rfl) rfl ?_
    refine dw_if (fun t => Φ (Option.bind t (dc_bk (d_X8_levelsIn_l26s x1 m)))) ((Int32.toInt x1) ≤ (Int32.toInt x5)) [] 93 32 rfl (fun _ => rfl) (fun c0 => ?_) (fun c0 => ?_)
    · refine dw_g rfl ?_
      refine dg_s (pc' := 94) [.long x2] rfl (fun _ => rfl) rfl ?_
      exact dw_r (some (.inl (some (.long x2), m))) rfl (fun _ => rfl) (kR _)
    · refine dw_g rfl ?_
      refine dg_s (pc' := 34) [.int x5] rfl (fun _ => rfl) rfl ?_
      refine dg_s (pc' := 36) [.int (6 : Int32), .int x5] rfl (fun _ => rfl) rfl ?_
      refine dw_if (fun t => Φ (Option.bind t (dc_bk (d_X8_levelsIn_l26s x1 m)))) (6 ≤ (Int32.toInt x5)) [] 93 39 rfl (fun _ => rfl) (fun c1 => ?_) (fun c1 => ?_)
      · refine dw_g rfl ?_
        refine dg_s (pc' := 94) [.long x2] rfl (fun _ => rfl) rfl ?_
        exact dw_r (some (.inl (some (.long x2), m))) rfl (fun _ => rfl) (kR _)
      · refine dw_g rfl ?_
        refine dg_s (pc' := 41) [.int x4] rfl (fun _ => rfl) rfl ?_
        refine dg_s (pc' := 42) [.int (3 : Int32), .int x4] rfl (fun _ => rfl) rfl ?_
        refine dg_s (pc' := 43) [.int (x4 - x4 / (3 : Int32) * (3 : Int32))] rfl (fun _ => rfl) rfl ?_
        refine dg_L (pc' := 45) [(6, .int (x4 - x4 / (3 : Int32) * (3 : Int32))), (1, .int x1), (2, .long x2), (4, .int x4), (5, .int x5)] [] rfl (fun _ => rfl) rfl ?_
        refine dg_s (pc' := 47) [.int x4] rfl (fun _ => rfl) rfl ?_
        refine dg_s (pc' := 48) [.int (3 : Int32), .int x4] rfl (fun _ => rfl) rfl ?_
        refine dg_s (pc' := 49) [.int (x4 / (3 : Int32))] rfl (fun _ => rfl) rfl ?_
        refine dg_L (pc' := 51) [(4, .int (x4 / (3 : Int32))), (6, .int (x4 - x4 / (3 : Int32) * (3 : Int32))), (1, .int x1), (2, .long x2), (5, .int x5)] [] rfl (fun _ => rfl) rfl ?_
        refine dg_s (pc' := 53) [.int (x4 - x4 / (3 : Int32) * (3 : Int32))] rfl (fun _ => rfl) rfl ?_
        refine dw_if (fun t => Φ (Option.bind t (dc_bk (d_X8_levelsIn_l26s x1 m)))) (¬ (Int32.toInt (x4 - x4 / (3 : Int32) * (3 : Int32))) = 0) [] 72 56 rfl (fun _ => rfl) (fun c2 => ?_) (fun c2 => ?_)
        · refine dw_g rfl ?_
          refine dg_s (pc' := 74) [.int (x4 - x4 / (3 : Int32) * (3 : Int32))] rfl (fun _ => rfl) rfl ?_
          refine dg_s (pc' := 75) [.int (1 : Int32), .int (x4 - x4 / (3 : Int32) * (3 : Int32))] rfl (fun _ => rfl) rfl ?_
          refine dw_if (fun t => Φ (Option.bind t (dc_bk (d_X8_levelsIn_l26s x1 m)))) (¬ (Int32.toInt (x4 - x4 / (3 : Int32) * (3 : Int32))) = 1) [] 87 78 rfl (fun _ => rfl) (fun c3 => ?_) (fun c3 => ?_)
          · refine dw_g rfl ?_
            refine dg_L (pc' := 90) [(5, .int (x5 + (1 : Int32))), (4, .int (x4 / (3 : Int32))), (6, .int (x4 - x4 / (3 : Int32) * (3 : Int32))), (1, .int x1), (2, .long x2)] [] rfl (fun _ => rfl) rfl ?_
            refine dw_s (pc' := 26) [] rfl (fun _ => rfl) ?_
            exact dw_j rfl (fun lv1 hv => ih x2 (x4 / (3 : Int32)) (x5 + (1 : Int32)) lv1 (hv.1 _ rfl) (hv.2.1 _ rfl) (hv.2.2.1 _ rfl) (hv.2.2.2.1 _ rfl))
          · refine dw_g rfl ?_
            refine dg_s (pc' := 79) [.long x2] rfl (fun _ => rfl) rfl ?_
            refine dg_s (pc' := 82) [.retAddr 0, .long x2] rfl (fun _ => rfl) rfl ?_
            refine dg_s (pc' := 84) [.int x5, .retAddr 0, .long x2] rfl (fun _ => rfl) rfl ?_
            refine dg_s (pc' := 85) [.long (ab_hi (Int32.toNatClampNeg x5)), .long x2] rfl (fun _ => rfl) rfl ?_
            refine dg_s (pc' := 86) [.long (x2 &&& (ab_hi (Int32.toNatClampNeg x5)))] rfl (fun _ => rfl) rfl ?_
            refine dg_L (pc' := 87) [(2, .long (x2 &&& (ab_hi (Int32.toNatClampNeg x5)))), (4, .int (x4 / (3 : Int32))), (6, .int (x4 - x4 / (3 : Int32) * (3 : Int32))), (1, .int x1), (5, .int x5)] [] rfl (fun _ => rfl) rfl ?_
            refine dg_L (pc' := 90) [(5, .int (x5 + (1 : Int32))), (2, .long (x2 &&& (ab_hi (Int32.toNatClampNeg x5)))), (4, .int (x4 / (3 : Int32))), (6, .int (x4 - x4 / (3 : Int32) * (3 : Int32))), (1, .int x1)] [] rfl (fun _ => rfl) rfl ?_
            refine dw_s (pc' := 26) [] rfl (fun _ => rfl) ?_
            exact dw_j rfl (fun lv1 hv => ih (x2 &&& (ab_hi (Int32.toNatClampNeg x5))) (x4 / (3 : Int32)) (x5 + (1 : Int32)) lv1 (hv.1 _ rfl) (hv.2.1 _ rfl) (hv.2.2.1 _ rfl) (hv.2.2.2.1 _ rfl))
        · refine dw_g rfl ?_
          refine dg_s (pc' := 57) [.long x2] rfl (fun _ => rfl) rfl ?_
          refine dg_s (pc' := 60) [.retAddr 0, .long x2] rfl (fun _ => rfl) rfl ?_
          refine dg_s (pc' := 62) [.int x5, .retAddr 0, .long x2] rfl (fun _ => rfl) rfl ?_
          refine dg_s (pc' := 63) [.long (ab_hi (Int32.toNatClampNeg x5)), .long x2] rfl (fun _ => rfl) rfl ?_
          refine dg_s (pc' := 66) [.long (-1 : Int64), .long (ab_hi (Int32.toNatClampNeg x5)), .long x2] rfl (fun _ => rfl) rfl ?_
          refine dg_s (pc' := 67) [.long ((ab_hi (Int32.toNatClampNeg x5)) ^^^ (-1 : Int64)), .long x2] rfl (fun _ => rfl) rfl ?_
          refine dg_s (pc' := 68) [.long (x2 &&& ((ab_hi (Int32.toNatClampNeg x5)) ^^^ (-1 : Int64)))] rfl (fun _ => rfl) rfl ?_
          refine dg_L (pc' := 69) [(2, .long (x2 &&& ((ab_hi (Int32.toNatClampNeg x5)) ^^^ (-1 : Int64)))), (4, .int (x4 / (3 : Int32))), (6, .int (x4 - x4 / (3 : Int32) * (3 : Int32))), (1, .int x1), (5, .int x5)] [] rfl (fun _ => rfl) rfl ?_
          refine dg_s (pc' := 87) [] rfl (fun _ => rfl) rfl ?_
          refine dg_L (pc' := 90) [(5, .int (x5 + (1 : Int32))), (2, .long (x2 &&& ((ab_hi (Int32.toNatClampNeg x5)) ^^^ (-1 : Int64)))), (4, .int (x4 / (3 : Int32))), (6, .int (x4 - x4 / (3 : Int32) * (3 : Int32))), (1, .int x1)] [] rfl (fun _ => rfl) rfl ?_
          refine dw_s (pc' := 26) [] rfl (fun _ => rfl) ?_
          exact dw_j rfl (fun lv1 hv => ih (x2 &&& ((ab_hi (Int32.toNatClampNeg x5)) ^^^ (-1 : Int64))) (x4 / (3 : Int32)) (x5 + (1 : Int32)) lv1 (hv.1 _ rfl) (hv.2.1 _ rfl) (hv.2.2.1 _ rfl) (hv.2.2.2.1 _ rfl))
noncomputable def d_X8_levelsIn (x0 : Int32) (x1 : Int32) (m : dc_M) : Option Int64 :=
  (if (Int32.toInt x1) < 6 then (d_X8_levelsIn_l26 x1 (((1 : Int64) <<< (Int32.toInt64 ((1 : Int32) <<< (x1 &&& 31)) &&& 63)) - (1 : Int64)) x0 (0 : Int32) m) else (d_X8_levelsIn_l26 x1 (-1 : Int64) x0 (0 : Int32) m))
set_option maxHeartbeats 8000000 in
theorem k_X8_levelsIn {u : Nat} {N : Nat} {Φ : (Option Int64) → Option Value → dc_M → Prop} (x0 : Int32) (x1 : Int32) (m : dc_M) (kR : ∀ (v : Int64), Φ (some (v)) (some (.long v)) m)  {lv : ab_L} (f0 : ab_lk lv 0 = some (.int x0)) (f1 : ab_lk lv 1 = some (.int x1)) : dc_pv u N ab_M_X8_levelsIn 0 lv [] m (Φ (d_X8_levelsIn x0 x1 m)) := by
  refine dc_pv.mono (dc_ok (C := C_X8_levelsIn) (S := S_X8_levelsIn) CO_X8_levelsIn 400 0 [(0, .int x0), (1, .int x1)] lv [] m (dc_sub_cons f0 (dc_sub_cons f1 (dc_sub_nil))) ?_) (Nat.le_succ N)
  unfold d_X8_levelsIn
  refine dg_s (pc' := 1) [.int x1] rfl (fun _ => rfl) rfl ?_
  refine dg_s (pc' := 3) [.int (6 : Int32), .int x1] rfl (fun _ => rfl) rfl ?_
  refine dw_if (fun t => Φ t) ((Int32.toInt x1) < 6) [] 12 6 rfl (fun _ => rfl) (fun c0 => ?_) (fun c0 => ?_)
  · refine dw_g rfl ?_
    refine dg_s (pc' := 13) [.long (1 : Int64)] rfl (fun _ => rfl) rfl ?_
    refine dg_s (pc' := 14) [.int (1 : Int32), .long (1 : Int64)] rfl (fun _ => rfl) rfl ?_
    refine dg_s (pc' := 15) [.int x1, .int (1 : Int32), .long (1 : Int64)] rfl (fun _ => rfl) rfl ?_
    refine dg_s (pc' := 16) [.int ((1 : Int32) <<< (x1 &&& 31)), .long (1 : Int64)] rfl (fun _ => rfl) rfl ?_
    refine dg_s (pc' := 17) [.long ((1 : Int64) <<< (Int32.toInt64 ((1 : Int32) <<< (x1 &&& 31)) &&& 63))] rfl (fun _ => rfl) rfl ?_
    refine dg_s (pc' := 18) [.long (1 : Int64), .long ((1 : Int64) <<< (Int32.toInt64 ((1 : Int32) <<< (x1 &&& 31)) &&& 63))] rfl (fun _ => rfl) rfl ?_
    refine dg_s (pc' := 19) [.long (((1 : Int64) <<< (Int32.toInt64 ((1 : Int32) <<< (x1 &&& 31)) &&& 63)) - (1 : Int64))] rfl (fun _ => rfl) rfl ?_
    refine dg_L (pc' := 20) [(2, .long (((1 : Int64) <<< (Int32.toInt64 ((1 : Int32) <<< (x1 &&& 31)) &&& 63)) - (1 : Int64))), (0, .int x0), (1, .int x1)] [] rfl (fun _ => rfl) rfl ?_
    refine dg_s (pc' := 21) [.int x0] rfl (fun _ => rfl) rfl ?_
    refine dg_L (pc' := 23) [(4, .int x0), (2, .long (((1 : Int64) <<< (Int32.toInt64 ((1 : Int32) <<< (x1 &&& 31)) &&& 63)) - (1 : Int64))), (0, .int x0), (1, .int x1)] [] rfl (fun _ => rfl) rfl ?_
    refine dg_s (pc' := 24) [.int (0 : Int32)] rfl (fun _ => rfl) rfl ?_
    refine dw_L (pc' := 26) [(5, .int (0 : Int32)), (4, .int x0), (2, .long (((1 : Int64) <<< (Int32.toInt64 ((1 : Int32) <<< (x1 &&& 31)) &&& 63)) - (1 : Int64))), (0, .int x0), (1, .int x1)] [] rfl (fun _ => rfl) ?_
    exact dw_j rfl (fun lv1 hv => k_X8_levelsIn_l26 (Φ := (fun t => Φ t)) x1 m (fun _a  => kR _a) N  (((1 : Int64) <<< (Int32.toInt64 ((1 : Int32) <<< (x1 &&& 31)) &&& 63)) - (1 : Int64)) x0 (0 : Int32) lv1 (hv.1 _ rfl) (hv.2.1 _ rfl) (hv.2.2.1 _ rfl) (hv.2.2.2.1 _ rfl))
  · refine dw_g rfl ?_
    refine dg_s (pc' := 9) [.long (-1 : Int64)] rfl (fun _ => rfl) rfl ?_
    refine dg_s (pc' := 19) [.long (-1 : Int64)] rfl (fun _ => rfl) rfl ?_
    refine dg_L (pc' := 20) [(2, .long (-1 : Int64)), (0, .int x0), (1, .int x1)] [] rfl (fun _ => rfl) rfl ?_
    refine dg_s (pc' := 21) [.int x0] rfl (fun _ => rfl) rfl ?_
    refine dg_L (pc' := 23) [(4, .int x0), (2, .long (-1 : Int64)), (0, .int x0), (1, .int x1)] [] rfl (fun _ => rfl) rfl ?_
    refine dg_s (pc' := 24) [.int (0 : Int32)] rfl (fun _ => rfl) rfl ?_
    refine dw_L (pc' := 26) [(5, .int (0 : Int32)), (4, .int x0), (2, .long (-1 : Int64)), (0, .int x0), (1, .int x1)] [] rfl (fun _ => rfl) ?_
    exact dw_j rfl (fun lv1 hv => k_X8_levelsIn_l26 (Φ := (fun t => Φ t)) x1 m (fun _a  => kR _a) N  (-1 : Int64) x0 (0 : Int32) lv1 (hv.1 _ rfl) (hv.2.1 _ rfl) (hv.2.2.1 _ rfl) (hv.2.2.2.1 _ rfl))
noncomputable def H_X8_levelsIn : dc_H := fun As m k => match As with
  | [.int x0, .int x1] => (d_X8_levelsIn x0 x1 m).bind (fun q => k (some (.long q)) m)
  | _ => dc_kz
theorem H_X8_levelsIn_ok {u : Nat} : dc_cok u 98 H_X8_levelsIn := fun M' hG N As m k P hz hP => by
  obtain rfl : ab_M_X8_levelsIn = M' := Option.some.inj hG
  unfold H_X8_levelsIn at hP
  split at hP
  · rename_i x0 x1
    exact dc_pv.imp (k_X8_levelsIn (Φ := fun (t : Option Int64) r m' => P (t.bind (fun q => k (some (.long q)) m)) → P (k r m')) x0 x1 m (fun _  h => h) rfl rfl) (fun r m' h => h hP)
  · exact absurd hP hz
