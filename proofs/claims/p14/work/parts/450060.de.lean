/-! ===== methods as functions (written by a program) ===== -/
def C_X0_addQuarrel : List (Nat × dc_H) := []
theorem CO_X0_addQuarrel {u : Nat} : dc_CO u C_X0_addQuarrel := dc_CO_nil
def S_X0_addQuarrel : List (Nat × List Nat) := []
def d_X0_addQuarrel (x0 : Nat) (x1 : Int32) (x2 : Int32) (m : dc_M) : dc_M :=
  (if (Int32.toInt (m.1 x0 1)) = 0 then (dc_wi (dc_wi (dc_wi m x0 2 x1) x0 3 x2) x0 1 (((dc_wi (dc_wi m x0 2 x1) x0 3 x2).1 x0 1) + (1 : Int32))) else (if (Int32.toInt (m.1 x0 2)) ≤ (Int32.toInt x1) then (dc_wi m x0 1 ((m.1 x0 1) + (1 : Int32))) else (dc_wi (dc_wi (dc_wi m x0 2 x1) x0 3 x2) x0 1 (((dc_wi (dc_wi m x0 2 x1) x0 3 x2).1 x0 1) + (1 : Int32)))))
set_option maxHeartbeats 8000000 in
theorem k_X0_addQuarrel {u : Nat} {N : Nat} {Φ : dc_M → Option Value → dc_M → Prop} (x0 : Nat) (x1 : Int32) (x2 : Int32) (m : dc_M) (kR : ∀  (m : dc_M), Φ (m) (none) m)  {lv : ab_L} (f0 : ab_lk lv 0 = some (.ref x0)) (f1 : ab_lk lv 1 = some (.int x1)) (f2 : ab_lk lv 2 = some (.int x2)) : dc_pv u N ab_M_X0_addQuarrel 0 lv [] m (Φ (d_X0_addQuarrel x0 x1 x2 m)) := by
  refine dc_pv.mono (dc_ok (C := C_X0_addQuarrel) (S := S_X0_addQuarrel) CO_X0_addQuarrel 400 0 [(0, .ref x0), (1, .int x1), (2, .int x2)] lv [] m (dc_sub_cons f0 (dc_sub_cons f1 (dc_sub_cons f2 (dc_sub_nil)))) ?_) (Nat.le_succ N)
  unfold d_X0_addQuarrel
  refine dg_s (pc' := 1) [.ref x0] rfl (fun _ => rfl) rfl ?_
  refine dg_s (pc' := 4) [.int (m.1 x0 1)] rfl (fun _ => rfl) rfl ?_
  refine dw_if (fun t => Φ t) ((Int32.toInt (m.1 x0 1)) = 0) [] 15 7 rfl (fun _ => rfl) (fun c0 => ?_) (fun c0 => ?_)
  · refine dw_g rfl ?_
    refine dg_s (pc' := 16) [.ref x0] rfl (fun _ => rfl) rfl ?_
    refine dg_s (pc' := 17) [.int x1, .ref x0] rfl (fun _ => rfl) rfl ?_
    refine dg_m (pc' := 20) (dc_wi m x0 2 x1) [] rfl (fun _ => rfl) rfl ?_
    refine dg_s (pc' := 21) [.ref x0] rfl (fun _ => rfl) rfl ?_
    refine dg_s (pc' := 22) [.int x2, .ref x0] rfl (fun _ => rfl) rfl ?_
    refine dg_m (pc' := 25) (dc_wi (dc_wi m x0 2 x1) x0 3 x2) [] rfl (fun _ => rfl) rfl ?_
    refine dg_s (pc' := 26) [.ref x0] rfl (fun _ => rfl) rfl ?_
    refine dg_s (pc' := 27) [.ref x0, .ref x0] rfl (fun _ => rfl) rfl ?_
    refine dg_s (pc' := 30) [.int ((dc_wi (dc_wi m x0 2 x1) x0 3 x2).1 x0 1), .ref x0] rfl (fun _ => rfl) rfl ?_
    refine dg_s (pc' := 31) [.int (1 : Int32), .int ((dc_wi (dc_wi m x0 2 x1) x0 3 x2).1 x0 1), .ref x0] rfl (fun _ => rfl) rfl ?_
    refine dg_s (pc' := 32) [.int (((dc_wi (dc_wi m x0 2 x1) x0 3 x2).1 x0 1) + (1 : Int32)), .ref x0] rfl (fun _ => rfl) rfl ?_
    refine dg_m (pc' := 35) (dc_wi (dc_wi (dc_wi m x0 2 x1) x0 3 x2) x0 1 (((dc_wi (dc_wi m x0 2 x1) x0 3 x2).1 x0 1) + (1 : Int32))) [] rfl (fun _ => rfl) rfl ?_
    exact dw_r (some (.inl (none, (dc_wi (dc_wi (dc_wi m x0 2 x1) x0 3 x2) x0 1 (((dc_wi (dc_wi m x0 2 x1) x0 3 x2).1 x0 1) + (1 : Int32)))))) rfl (fun _ => rfl) (kR _)
  · refine dw_g rfl ?_
    refine dg_s (pc' := 8) [.int x1] rfl (fun _ => rfl) rfl ?_
    refine dg_s (pc' := 9) [.ref x0, .int x1] rfl (fun _ => rfl) rfl ?_
    refine dg_s (pc' := 12) [.int (m.1 x0 2), .int x1] rfl (fun _ => rfl) rfl ?_
    refine dw_if (fun t => Φ t) ((Int32.toInt (m.1 x0 2)) ≤ (Int32.toInt x1)) [] 25 15 rfl (fun _ => rfl) (fun c1 => ?_) (fun c1 => ?_)
    · refine dw_g rfl ?_
      refine dg_s (pc' := 26) [.ref x0] rfl (fun _ => rfl) rfl ?_
      refine dg_s (pc' := 27) [.ref x0, .ref x0] rfl (fun _ => rfl) rfl ?_
      refine dg_s (pc' := 30) [.int (m.1 x0 1), .ref x0] rfl (fun _ => rfl) rfl ?_
      refine dg_s (pc' := 31) [.int (1 : Int32), .int (m.1 x0 1), .ref x0] rfl (fun _ => rfl) rfl ?_
      refine dg_s (pc' := 32) [.int ((m.1 x0 1) + (1 : Int32)), .ref x0] rfl (fun _ => rfl) rfl ?_
      refine dg_m (pc' := 35) (dc_wi m x0 1 ((m.1 x0 1) + (1 : Int32))) [] rfl (fun _ => rfl) rfl ?_
      exact dw_r (some (.inl (none, (dc_wi m x0 1 ((m.1 x0 1) + (1 : Int32)))))) rfl (fun _ => rfl) (kR _)
    · refine dw_g rfl ?_
      refine dg_s (pc' := 16) [.ref x0] rfl (fun _ => rfl) rfl ?_
      refine dg_s (pc' := 17) [.int x1, .ref x0] rfl (fun _ => rfl) rfl ?_
      refine dg_m (pc' := 20) (dc_wi m x0 2 x1) [] rfl (fun _ => rfl) rfl ?_
      refine dg_s (pc' := 21) [.ref x0] rfl (fun _ => rfl) rfl ?_
      refine dg_s (pc' := 22) [.int x2, .ref x0] rfl (fun _ => rfl) rfl ?_
      refine dg_m (pc' := 25) (dc_wi (dc_wi m x0 2 x1) x0 3 x2) [] rfl (fun _ => rfl) rfl ?_
      refine dg_s (pc' := 26) [.ref x0] rfl (fun _ => rfl) rfl ?_
      refine dg_s (pc' := 27) [.ref x0, .ref x0] rfl (fun _ => rfl) rfl ?_
      refine dg_s (pc' := 30) [.int ((dc_wi (dc_wi m x0 2 x1) x0 3 x2).1 x0 1), .ref x0] rfl (fun _ => rfl) rfl ?_
      refine dg_s (pc' := 31) [.int (1 : Int32), .int ((dc_wi (dc_wi m x0 2 x1) x0 3 x2).1 x0 1), .ref x0] rfl (fun _ => rfl) rfl ?_
      refine dg_s (pc' := 32) [.int (((dc_wi (dc_wi m x0 2 x1) x0 3 x2).1 x0 1) + (1 : Int32)), .ref x0] rfl (fun _ => rfl) rfl ?_
      refine dg_m (pc' := 35) (dc_wi (dc_wi (dc_wi m x0 2 x1) x0 3 x2) x0 1 (((dc_wi (dc_wi m x0 2 x1) x0 3 x2).1 x0 1) + (1 : Int32))) [] rfl (fun _ => rfl) rfl ?_
      exact dw_r (some (.inl (none, (dc_wi (dc_wi (dc_wi m x0 2 x1) x0 3 x2) x0 1 (((dc_wi (dc_wi m x0 2 x1) x0 3 x2).1 x0 1) + (1 : Int32)))))) rfl (fun _ => rfl) (kR _)
def H_X0_addQuarrel : dc_H := fun As m k => match As with
  | [.ref x0, .int x1, .int x2] => dc_let (d_X0_addQuarrel x0 x1 x2 m) (fun q => k (none) q)
  | _ => dc_kz
theorem H_X0_addQuarrel_ok {u : Nat} : dc_cok u 3 H_X0_addQuarrel := fun M' hG N As m k P hz hP => by
  obtain rfl : ab_M_X0_addQuarrel = M' := Option.some.inj hG
  unfold H_X0_addQuarrel at hP
  split at hP
  · rename_i x0 x1 x2
    exact dc_pv.imp (k_X0_addQuarrel (Φ := fun (t : dc_M) r m' => P (dc_let t (fun q => k (none) q)) → P (k r m')) x0 x1 x2 m (fun _ h => h) rfl rfl rfl) (fun r m' h => h hP)
  · exact absurd hP hz
noncomputable def C_X0_findQuarrels : List (Nat × dc_H) := [(238, H_J7_fill_53178), (3, H_X0_addQuarrel)]
theorem CO_X0_findQuarrels {u : Nat} : dc_CO u C_X0_findQuarrels := dc_CO_cons H_J7_fill_53178_ok (dc_CO_cons H_X0_addQuarrel_ok (dc_CO_nil))
def S_X0_findQuarrels : List (Nat × List Nat) := [(33, [0, 1, 2, 3]), (64, [0, 1, 2, 3, 4, 5, 6]), (128, [0, 1, 2, 3, 4])]
noncomputable def d_X0_findQuarrels_b128 (x0 : Nat) (x1 : Int32) (x2 : Nat) (x3 : Int32) (x4 : Int32) (m : dc_M) : Option ((Int32 × dc_M) ⊕ dc_M) :=
  some (Sum.inl ((x3 + (1 : Int32)), (dc_wi (dc_wi m (x0 + 2) (Int32.toNatClampNeg x3) (m.1 (x0 + 1) (Int32.toNatClampNeg x4))) (x0 + 1) (Int32.toNatClampNeg x4) x3)))
set_option maxHeartbeats 8000000 in
theorem k_X0_findQuarrels_b128 {u : Nat} {N : Nat} {Φ : (Option ((Int32 × dc_M) ⊕ dc_M)) → Option Value → dc_M → Prop} (x0 : Nat) (x1 : Int32) (x2 : Nat) (x3 : Int32) (x4 : Int32) (m : dc_M) (kR : ∀  (m : dc_M), Φ (some (Sum.inr (m))) (none) m) (k33 : ∀ (x3 : Int32) (m : dc_M) (lv : ab_L), ab_lk lv 0 = some (.ref x0) → ab_lk lv 1 = some (.int x1) → ab_lk lv 2 = some (.ref x2) → ab_lk lv 3 = some (.int x3) →  dc_pv u N ab_M_X0_findQuarrels 33 lv [] m (Φ (some (Sum.inl (x3, m))))) {lv : ab_L} (f0 : ab_lk lv 0 = some (.ref x0)) (f1 : ab_lk lv 1 = some (.int x1)) (f2 : ab_lk lv 2 = some (.ref x2)) (f3 : ab_lk lv 3 = some (.int x3)) (f4 : ab_lk lv 4 = some (.int x4)) : dc_pv u N ab_M_X0_findQuarrels 128 lv [] m (Φ (d_X0_findQuarrels_b128 x0 x1 x2 x3 x4 m)) := by
  refine dc_pv.mono (dc_ok (C := C_X0_findQuarrels) (S := S_X0_findQuarrels) CO_X0_findQuarrels 400 128 [(0, .ref x0), (1, .int x1), (2, .ref x2), (3, .int x3), (4, .int x4)] lv [] m (dc_sub_cons f0 (dc_sub_cons f1 (dc_sub_cons f2 (dc_sub_cons f3 (dc_sub_cons f4 (dc_sub_nil)))))) ?_) (Nat.le_succ N)
  unfold d_X0_findQuarrels_b128
  refine dg_s (pc' := 129) [.ref x0] rfl (fun _ => rfl) rfl ?_
  refine dg_s (pc' := 132) [.ref (x0 + 2)] rfl (fun _ => rfl) rfl ?_
  refine dg_s (pc' := 133) [.int x3, .ref (x0 + 2)] rfl (fun _ => rfl) rfl ?_
  refine dg_s (pc' := 134) [.ref x0, .int x3, .ref (x0 + 2)] rfl (fun _ => rfl) rfl ?_
  refine dg_s (pc' := 137) [.ref (x0 + 1), .int x3, .ref (x0 + 2)] rfl (fun _ => rfl) rfl ?_
  refine dg_s (pc' := 139) [.int x4, .ref (x0 + 1), .int x3, .ref (x0 + 2)] rfl (fun _ => rfl) rfl ?_
  refine dg_s (pc' := 140) [.int (m.1 (x0 + 1) (Int32.toNatClampNeg x4)), .int x3, .ref (x0 + 2)] rfl (fun _ => rfl) rfl ?_
  refine dg_m (pc' := 141) (dc_wi m (x0 + 2) (Int32.toNatClampNeg x3) (m.1 (x0 + 1) (Int32.toNatClampNeg x4))) [] rfl (fun _ => rfl) rfl ?_
  refine dg_s (pc' := 142) [.ref x0] rfl (fun _ => rfl) rfl ?_
  refine dg_s (pc' := 145) [.ref (x0 + 1)] rfl (fun _ => rfl) rfl ?_
  refine dg_s (pc' := 147) [.int x4, .ref (x0 + 1)] rfl (fun _ => rfl) rfl ?_
  refine dg_s (pc' := 148) [.int x3, .int x4, .ref (x0 + 1)] rfl (fun _ => rfl) rfl ?_
  refine dg_m (pc' := 149) (dc_wi (dc_wi m (x0 + 2) (Int32.toNatClampNeg x3) (m.1 (x0 + 1) (Int32.toNatClampNeg x4))) (x0 + 1) (Int32.toNatClampNeg x4) x3) [] rfl (fun _ => rfl) rfl ?_
  refine dg_L (pc' := 152) [(3, .int (x3 + (1 : Int32))), (0, .ref x0), (1, .int x1), (2, .ref x2), (4, .int x4)] [] rfl (fun _ => rfl) rfl ?_
  refine dw_s (pc' := 33) [] rfl (fun _ => rfl) ?_
  exact dw_j rfl (fun lv1 hv => k33 (x3 + (1 : Int32)) (dc_wi (dc_wi m (x0 + 2) (Int32.toNatClampNeg x3) (m.1 (x0 + 1) (Int32.toNatClampNeg x4))) (x0 + 1) (Int32.toNatClampNeg x4) x3) lv1 (hv.1 _ rfl) (hv.2.1 _ rfl) (hv.2.2.1 _ rfl) (hv.2.2.2.1 _ rfl))
noncomputable def d_X0_findQuarrels_l64b (x0 : Nat) (x1 : Int32) (x2 : Nat) (x3 : Int32) (x4 : Int32) (x5 : Int32) (x6 : Int32) (m : dc_M) : Option ((Int32 × Int32 × dc_M) ⊕ ((Int32 × dc_M) ⊕ dc_M)) :=
  (if 200 ≤ (Int32.toInt x6) then ((d_X0_findQuarrels_b128 x0 x1 x2 x3 x4 m).map (fun z => Sum.inr (z))) else (if (Int32.toInt x5) < 0 then ((d_X0_findQuarrels_b128 x0 x1 x2 x3 x4 m).map (fun z => Sum.inr (z))) else (if (Int32.toInt ((((dc_wi m x0 0 ((m.1 x0 0) + (1 : Int32))).1 (x2 + 4) (Int32.toNatClampNeg x3)) ^^^ ((dc_wi m x0 0 ((m.1 x0 0) + (1 : Int32))).1 (x2 + 4) (Int32.toNatClampNeg x5))) &&& x1)) = 0 then some (Sum.inl (((dc_wi m x0 0 ((m.1 x0 0) + (1 : Int32))).1 (x0 + 2) (Int32.toNatClampNeg x5)), (x6 + (1 : Int32)), (dc_wi m x0 0 ((m.1 x0 0) + (1 : Int32))))) else (dc_let (d_X0_addQuarrel x0 x5 x3 (dc_wi m x0 0 ((m.1 x0 0) + (1 : Int32)))) (fun q1 => some (Sum.inl ((q1.1 (x0 + 2) (Int32.toNatClampNeg x5)), (x6 + (1 : Int32)), q1)))))))
noncomputable def d_X0_findQuarrels_l64s (x0 : Nat) (x1 : Int32) (x2 : Nat) (x3 : Int32) (x4 : Int32) : (Int32 × Int32 × dc_M) → Option ((Int32 × Int32 × dc_M) ⊕ ((Int32 × dc_M) ⊕ dc_M)) := fun s => d_X0_findQuarrels_l64b x0 x1 x2 x3 x4 s.1 s.2.1 s.2.2
noncomputable def d_X0_findQuarrels_l64 (x0 : Nat) (x1 : Int32) (x2 : Nat) (x3 : Int32) (x4 : Int32) (x5 : Int32) (x6 : Int32) (m : dc_M) : Option ((Int32 × dc_M) ⊕ dc_M) := dc_lp (d_X0_findQuarrels_l64s x0 x1 x2 x3 x4) (x5, x6, m)
set_option maxHeartbeats 8000000 in
theorem k_X0_findQuarrels_l64 {u : Nat} {Φ : (Option ((Int32 × dc_M) ⊕ dc_M)) → Option Value → dc_M → Prop} (x0 : Nat) (x1 : Int32) (x2 : Nat) (x3 : Int32) (x4 : Int32) (kR : ∀  (m : dc_M), Φ (some (Sum.inr (m))) (none) m) : ∀ (N : Nat), (∀ (x3 : Int32) (m : dc_M) (lv : ab_L), ab_lk lv 0 = some (.ref x0) → ab_lk lv 1 = some (.int x1) → ab_lk lv 2 = some (.ref x2) → ab_lk lv 3 = some (.int x3) →  dc_pv u N ab_M_X0_findQuarrels 33 lv [] m (Φ (some (Sum.inl (x3, m))))) → ∀ (x5 : Int32) (x6 : Int32) (m : dc_M) (lv : ab_L), ab_lk lv 0 = some (.ref x0) → ab_lk lv 1 = some (.int x1) → ab_lk lv 2 = some (.ref x2) → ab_lk lv 3 = some (.int x3) → ab_lk lv 4 = some (.int x4) → ab_lk lv 5 = some (.int x5) → ab_lk lv 6 = some (.int x6) → dc_pv u N ab_M_X0_findQuarrels 64 lv [] m (Φ (d_X0_findQuarrels_l64 x0 x1 x2 x3 x4 x5 x6 m)) := by
  intro N
  induction N with
  | zero => intros; exact dc_pv_zero
  | succ N ih =>
    intro k33 x5 x6 m lv f0 f1 f2 f3 f4 f5 f6
    have k33 := fun a0 a1 a2 a3 a4 a5 a6 => (k33 a0 a1 a2 a3 a4 a5 a6).mono (Nat.le_succ N)
    have ih := ih k33
    refine dc_ok (C := C_X0_findQuarrels) (S := S_X0_findQuarrels) CO_X0_findQuarrels 400 64 [(0, .ref x0), (1, .int x1), (2, .ref x2), (3, .int x3), (4, .int x4), (5, .int x5), (6, .int x6)] lv [] m (dc_sub_cons f0 (dc_sub_cons f1 (dc_sub_cons f2 (dc_sub_cons f3 (dc_sub_cons f4 (dc_sub_cons f5 (dc_sub_cons f6 (dc_sub_nil)))))))) ?_
    unfold d_X0_findQuarrels_l64
    rw [dc_lp_eq]
    show (fun t x => dc_lf u N ab_M_X0_findQuarrels (Φ (Option.bind t (dc_bk (d_X0_findQuarrels_l64s x0 x1 x2 x3 x4)))) x) (d_X0_findQuarrels_l64b x0 x1 x2 x3 x4 x5 x6 m) _
    dsimp only
    unfold d_X0_findQuarrels_l64b
    refine dg_s (pc' := 66) [.int x6] rfl (fun _ => rfl) rfl ?_
    refine dg_s (pc' := 69) [.int (200 : Int32), .int x6] rfl (fun _ => rfl) rfl ?_
    refine dw_if (fun t => Φ (Option.bind t (dc_bk (d_X0_findQuarrels_l64s x0 x1 x2 x3 x4)))) (200 ≤ (Int32.toInt x6)) [] 128 72 rfl (fun _ => rfl) (fun c0 => ?_) (fun c0 => ?_)
    · exact dw_j rfl (fun lv1 hv => k_X0_findQuarrels_b128 (Φ := (fun t => Φ (Option.bind (t.map (fun z => Sum.inr (z))) (dc_bk (d_X0_findQuarrels_l64s x0 x1 x2 x3 x4))))) x0 x1 x2 x3 x4 m (fun _b => kR _b) k33 (hv.1 _ rfl) (hv.2.1 _ rfl) (hv.2.2.1 _ rfl) (hv.2.2.2.1 _ rfl) (hv.2.2.2.2.1 _ rfl))
    · refine dw_g rfl ?_
      refine dg_s (pc' := 74) [.int x5] rfl (fun _ => rfl) rfl ?_
      refine dw_if (fun t => Φ (Option.bind t (dc_bk (d_X0_findQuarrels_l64s x0 x1 x2 x3 x4)))) ((Int32.toInt x5) < 0) [] 128 77 rfl (fun _ => rfl) (fun c1 => ?_) (fun c1 => ?_)
      · exact dw_j rfl (fun lv1 hv => k_X0_findQuarrels_b128 (Φ := (fun t => Φ (Option.bind (t.map (fun z => Sum.inr (z))) (dc_bk (d_X0_findQuarrels_l64s x0 x1 x2 x3 x4))))) x0 x1 x2 x3 x4 m (fun _b => kR _b) k33 (hv.1 _ rfl) (hv.2.1 _ rfl) (hv.2.2.1 _ rfl) (hv.2.2.2.1 _ rfl) (hv.2.2.2.2.1 _ rfl))
      · refine dw_g rfl ?_
        refine dg_s (pc' := 78) [.ref x0] rfl (fun _ => rfl) rfl ?_
        refine dg_s (pc' := 79) [.ref x0, .ref x0] rfl (fun _ => rfl) rfl ?_
        refine dg_s (pc' := 82) [.int (m.1 x0 0), .ref x0] rfl (fun _ => rfl) rfl ?_
        refine dg_s (pc' := 83) [.int (1 : Int32), .int (m.1 x0 0), .ref x0] rfl (fun _ => rfl) rfl ?_
        refine dg_s (pc' := 84) [.int ((m.1 x0 0) + (1 : Int32)), .ref x0] rfl (fun _ => rfl) rfl ?_
        refine dg_m (pc' := 87) (dc_wi m x0 0 ((m.1 x0 0) + (1 : Int32))) [] rfl (fun _ => rfl) rfl ?_
        refine dg_s (pc' := 88) [.ref x2] rfl (fun _ => rfl) rfl ?_
        refine dg_s (pc' := 91) [.ref (x2 + 4)] rfl (fun _ => rfl) rfl ?_
        refine dg_s (pc' := 92) [.int x3, .ref (x2 + 4)] rfl (fun _ => rfl) rfl ?_
        refine dg_s (pc' := 93) [.int ((dc_wi m x0 0 ((m.1 x0 0) + (1 : Int32))).1 (x2 + 4) (Int32.toNatClampNeg x3))] rfl (fun _ => rfl) rfl ?_
        refine dg_s (pc' := 94) [.ref x2, .int ((dc_wi m x0 0 ((m.1 x0 0) + (1 : Int32))).1 (x2 + 4) (Int32.toNatClampNeg x3))] rfl (fun _ => rfl) rfl ?_
        refine dg_s (pc' := 97) [.ref (x2 + 4), .int ((dc_wi m x0 0 ((m.1 x0 0) + (1 : Int32))).1 (x2 + 4) (Int32.toNatClampNeg x3))] rfl (fun _ => rfl) rfl ?_
        refine dg_s (pc' := 99) [.int x5, .ref (x2 + 4), .int ((dc_wi m x0 0 ((m.1 x0 0) + (1 : Int32))).1 (x2 + 4) (Int32.toNatClampNeg x3))] rfl (fun _ => rfl) rfl ?_
        refine dg_s (pc' := 100) [.int ((dc_wi m x0 0 ((m.1 x0 0) + (1 : Int32))).1 (x2 + 4) (Int32.toNatClampNeg x5)), .int ((dc_wi m x0 0 ((m.1 x0 0) + (1 : Int32))).1 (x2 + 4) (Int32.toNatClampNeg x3))] rfl (fun _ => rfl) rfl ?_
        refine dg_s (pc' := 101) [.int (((dc_wi m x0 0 ((m.1 x0 0) + (1 : Int32))).1 (x2 + 4) (Int32.toNatClampNeg x3)) ^^^ ((dc_wi m x0 0 ((m.1 x0 0) + (1 : Int32))).1 (x2 + 4) (Int32.toNatClampNeg x5)))] rfl (fun _ => rfl) rfl ?_
        refine dg_s (pc' := 102) [.int x1, .int (((dc_wi m x0 0 ((m.1 x0 0) + (1 : Int32))).1 (x2 + 4) (Int32.toNatClampNeg x3)) ^^^ ((dc_wi m x0 0 ((m.1 x0 0) + (1 : Int32))).1 (x2 + 4) (Int32.toNatClampNeg x5)))] rfl (fun _ => rfl) rfl ?_
        refine dg_s (pc' := 103) [.int ((((dc_wi m x0 0 ((m.1 x0 0) + (1 : Int32))).1 (x2 + 4) (Int32.toNatClampNeg x3)) ^^^ ((dc_wi m x0 0 ((m.1 x0 0) + (1 : Int32))).1 (x2 + 4) (Int32.toNatClampNeg x5))) &&& x1)] rfl (fun _ => rfl) rfl ?_
        refine dw_if (fun t => Φ (Option.bind t (dc_bk (d_X0_findQuarrels_l64s x0 x1 x2 x3 x4)))) ((Int32.toInt ((((dc_wi m x0 0 ((m.1 x0 0) + (1 : Int32))).1 (x2 + 4) (Int32.toNatClampNeg x3)) ^^^ ((dc_wi m x0 0 ((m.1 x0 0) + (1 : Int32))).1 (x2 + 4) (Int32.toNatClampNeg x5))) &&& x1)) = 0) [] 113 106 rfl (fun _ => rfl) (fun c2 => ?_) (fun c2 => ?_)
        · refine dw_g rfl ?_
          refine dg_s (pc' := 114) [.ref x0] rfl (fun _ => rfl) rfl ?_
          refine dg_s (pc' := 117) [.ref (x0 + 2)] rfl (fun _ => rfl) rfl ?_
          refine dg_s (pc' := 119) [.int x5, .ref (x0 + 2)] rfl (fun _ => rfl) rfl ?_
          refine dg_s (pc' := 120) [.int ((dc_wi m x0 0 ((m.1 x0 0) + (1 : Int32))).1 (x0 + 2) (Int32.toNatClampNeg x5))] rfl (fun _ => rfl) rfl ?_
          refine dg_L (pc' := 122) [(5, .int ((dc_wi m x0 0 ((m.1 x0 0) + (1 : Int32))).1 (x0 + 2) (Int32.toNatClampNeg x5))), (0, .ref x0), (1, .int x1), (2, .ref x2), (3, .int x3), (4, .int x4), (6, .int x6)] [] rfl (fun _ => rfl) rfl ?_
          refine dg_L (pc' := 125) [(6, .int (x6 + (1 : Int32))), (5, .int ((dc_wi m x0 0 ((m.1 x0 0) + (1 : Int32))).1 (x0 + 2) (Int32.toNatClampNeg x5))), (0, .ref x0), (1, .int x1), (2, .ref x2), (3, .int x3), (4, .int x4)] [] rfl (fun _ => rfl) rfl ?_
          refine dw_s (pc' := 64) [] rfl (fun _ => rfl) ?_
          exact dw_j rfl (fun lv1 hv => ih ((dc_wi m x0 0 ((m.1 x0 0) + (1 : Int32))).1 (x0 + 2) (Int32.toNatClampNeg x5)) (x6 + (1 : Int32)) (dc_wi m x0 0 ((m.1 x0 0) + (1 : Int32))) lv1 (hv.1 _ rfl) (hv.2.1 _ rfl) (hv.2.2.1 _ rfl) (hv.2.2.2.1 _ rfl) (hv.2.2.2.2.1 _ rfl) (hv.2.2.2.2.2.1 _ rfl) (hv.2.2.2.2.2.2.1 _ rfl))
        · refine dw_g rfl ?_
          refine dg_s (pc' := 107) [.ref x0] rfl (fun _ => rfl) rfl ?_
          refine dg_s (pc' := 109) [.int x5, .ref x0] rfl (fun _ => rfl) rfl ?_
          refine dg_s (pc' := 110) [.int x3, .int x5, .ref x0] rfl (fun _ => rfl) rfl ?_
          refine dw_l (fun t => Φ (Option.bind t (dc_bk (d_X0_findQuarrels_l64s x0 x1 x2 x3 x4)))) (pc' := 113) (fun q1 => []) (fun q1 => q1) rfl (fun _ => rfl) (fun q1 => ?_)
          refine dw_g rfl ?_
          refine dg_s (pc' := 114) [.ref x0] rfl (fun _ => rfl) rfl ?_
          refine dg_s (pc' := 117) [.ref (x0 + 2)] rfl (fun _ => rfl) rfl ?_
          refine dg_s (pc' := 119) [.int x5, .ref (x0 + 2)] rfl (fun _ => rfl) rfl ?_
          refine dg_s (pc' := 120) [.int (q1.1 (x0 + 2) (Int32.toNatClampNeg x5))] rfl (fun _ => rfl) rfl ?_
          refine dg_L (pc' := 122) [(5, .int (q1.1 (x0 + 2) (Int32.toNatClampNeg x5))), (0, .ref x0), (1, .int x1), (2, .ref x2), (3, .int x3), (4, .int x4), (6, .int x6)] [] rfl (fun _ => rfl) rfl ?_
          refine dg_L (pc' := 125) [(6, .int (x6 + (1 : Int32))), (5, .int (q1.1 (x0 + 2) (Int32.toNatClampNeg x5))), (0, .ref x0), (1, .int x1), (2, .ref x2), (3, .int x3), (4, .int x4)] [] rfl (fun _ => rfl) rfl ?_
          refine dw_s (pc' := 64) [] rfl (fun _ => rfl) ?_
          exact dw_j rfl (fun lv1 hv => ih (q1.1 (x0 + 2) (Int32.toNatClampNeg x5)) (x6 + (1 : Int32)) q1 lv1 (hv.1 _ rfl) (hv.2.1 _ rfl) (hv.2.2.1 _ rfl) (hv.2.2.2.1 _ rfl) (hv.2.2.2.2.1 _ rfl) (hv.2.2.2.2.2.1 _ rfl) (hv.2.2.2.2.2.2.1 _ rfl))
noncomputable def d_X0_findQuarrels_l33b (x0 : Nat) (x1 : Int32) (x2 : Nat) (x3 : Int32) (m : dc_M) : Option ((Int32 × dc_M) ⊕ dc_M) :=
  (if (Int32.toInt (m.1 x2 0)) ≤ (Int32.toInt x3) then some (Sum.inr (m)) else (d_X0_findQuarrels_l64 x0 x1 x2 x3 ((m.1 (x2 + 3) (Int32.toNatClampNeg x3)) &&& (63 : Int32)) (m.1 (x0 + 1) (Int32.toNatClampNeg ((m.1 (x2 + 3) (Int32.toNatClampNeg x3)) &&& (63 : Int32)))) (0 : Int32) m))
noncomputable def d_X0_findQuarrels_l33s (x0 : Nat) (x1 : Int32) (x2 : Nat) : (Int32 × dc_M) → Option ((Int32 × dc_M) ⊕ dc_M) := fun s => d_X0_findQuarrels_l33b x0 x1 x2 s.1 s.2
noncomputable def d_X0_findQuarrels_l33 (x0 : Nat) (x1 : Int32) (x2 : Nat) (x3 : Int32) (m : dc_M) : Option dc_M := dc_lp (d_X0_findQuarrels_l33s x0 x1 x2) (x3, m)
set_option maxHeartbeats 8000000 in
theorem k_X0_findQuarrels_l33 {u : Nat} {Φ : (Option dc_M) → Option Value → dc_M → Prop} (x0 : Nat) (x1 : Int32) (x2 : Nat) (kR : ∀  (m : dc_M), Φ (some (m)) (none) m) : ∀ (N : Nat), ∀ (x3 : Int32) (m : dc_M) (lv : ab_L), ab_lk lv 0 = some (.ref x0) → ab_lk lv 1 = some (.int x1) → ab_lk lv 2 = some (.ref x2) → ab_lk lv 3 = some (.int x3) → dc_pv u N ab_M_X0_findQuarrels 33 lv [] m (Φ (d_X0_findQuarrels_l33 x0 x1 x2 x3 m)) := by
  intro N
  induction N with
  | zero => intros; exact dc_pv_zero
  | succ N ih =>
    intro x3 m lv f0 f1 f2 f3
    refine dc_ok (C := C_X0_findQuarrels) (S := S_X0_findQuarrels) CO_X0_findQuarrels 400 33 [(0, .ref x0), (1, .int x1), (2, .ref x2), (3, .int x3)] lv [] m (dc_sub_cons f0 (dc_sub_cons f1 (dc_sub_cons f2 (dc_sub_cons f3 (dc_sub_nil))))) ?_
    unfold d_X0_findQuarrels_l33
    rw [dc_lp_eq]
    show (fun t x => dc_lf u N ab_M_X0_findQuarrels (Φ (Option.bind t (dc_bk (d_X0_findQuarrels_l33s x0 x1 x2)))) x) (d_X0_findQuarrels_l33b x0 x1 x2 x3 m) _
    dsimp only
    unfold d_X0_findQuarrels_l33b
    refine dg_s (pc' := 34) [.int x3] rfl (fun _ => rfl) rfl ?_
    refine dg_s (pc' := 35) [.ref x2, .int x3] rfl (fun _ => rfl) rfl ?_
    refine dg_s (pc' := 38) [.int (m.1 x2 0), .int x3] rfl (fun _ => rfl) rfl ?_
    refine dw_if (fun t => Φ (Option.bind t (dc_bk (d_X0_findQuarrels_l33s x0 x1 x2)))) ((Int32.toInt (m.1 x2 0)) ≤ (Int32.toInt x3)) [] 155 41 rfl (fun _ => rfl) (fun c0 => ?_) (fun c0 => ?_)
    · refine dw_g rfl ?_
      exact dw_r (some (.inl (none, m))) rfl (fun _ => rfl) (kR _)
    · refine dw_g rfl ?_
      refine dg_s (pc' := 42) [.ref x2] rfl (fun _ => rfl) rfl ?_
      refine dg_s (pc' := 45) [.ref (x2 + 3)] rfl (fun _ => rfl) rfl ?_
      refine dg_s (pc' := 46) [.int x3, .ref (x2 + 3)] rfl (fun _ => rfl) rfl ?_
      refine dg_s (pc' := 47) [.int (m.1 (x2 + 3) (Int32.toNatClampNeg x3))] rfl (fun _ => rfl) rfl ?_
      refine dg_s (pc' := 49) [.int (63 : Int32), .int (m.1 (x2 + 3) (Int32.toNatClampNeg x3))] rfl (fun _ => rfl) rfl ?_
      refine dg_s (pc' := 50) [.int ((m.1 (x2 + 3) (Int32.toNatClampNeg x3)) &&& (63 : Int32))] rfl (fun _ => rfl) rfl ?_
      refine dg_L (pc' := 52) [(4, .int ((m.1 (x2 + 3) (Int32.toNatClampNeg x3)) &&& (63 : Int32))), (0, .ref x0), (1, .int x1), (2, .ref x2), (3, .int x3)] [] rfl (fun _ => rfl) rfl ?_
      refine dg_s (pc' := 53) [.ref x0] rfl (fun _ => rfl) rfl ?_
      refine dg_s (pc' := 56) [.ref (x0 + 1)] rfl (fun _ => rfl) rfl ?_
      refine dg_s (pc' := 58) [.int ((m.1 (x2 + 3) (Int32.toNatClampNeg x3)) &&& (63 : Int32)), .ref (x0 + 1)] rfl (fun _ => rfl) rfl ?_
      refine dg_s (pc' := 59) [.int (m.1 (x0 + 1) (Int32.toNatClampNeg ((m.1 (x2 + 3) (Int32.toNatClampNeg x3)) &&& (63 : Int32))))] rfl (fun _ => rfl) rfl ?_
      refine dg_L (pc' := 61) [(5, .int (m.1 (x0 + 1) (Int32.toNatClampNeg ((m.1 (x2 + 3) (Int32.toNatClampNeg x3)) &&& (63 : Int32))))), (4, .int ((m.1 (x2 + 3) (Int32.toNatClampNeg x3)) &&& (63 : Int32))), (0, .ref x0), (1, .int x1), (2, .ref x2), (3, .int x3)] [] rfl (fun _ => rfl) rfl ?_
      refine dg_s (pc' := 62) [.int (0 : Int32)] rfl (fun _ => rfl) rfl ?_
      refine dw_L (pc' := 64) [(6, .int (0 : Int32)), (5, .int (m.1 (x0 + 1) (Int32.toNatClampNeg ((m.1 (x2 + 3) (Int32.toNatClampNeg x3)) &&& (63 : Int32))))), (4, .int ((m.1 (x2 + 3) (Int32.toNatClampNeg x3)) &&& (63 : Int32))), (0, .ref x0), (1, .int x1), (2, .ref x2), (3, .int x3)] [] rfl (fun _ => rfl) ?_
      exact dw_j rfl (fun lv1 hv => k_X0_findQuarrels_l64 (Φ := (fun t => Φ (Option.bind t (dc_bk (d_X0_findQuarrels_l33s x0 x1 x2))))) x0 x1 x2 x3 ((m.1 (x2 + 3) (Int32.toNatClampNeg x3)) &&& (63 : Int32)) (fun _b => kR _b) N ih (m.1 (x0 + 1) (Int32.toNatClampNeg ((m.1 (x2 + 3) (Int32.toNatClampNeg x3)) &&& (63 : Int32)))) (0 : Int32) m lv1 (hv.1 _ rfl) (hv.2.1 _ rfl) (hv.2.2.1 _ rfl) (hv.2.2.2.1 _ rfl) (hv.2.2.2.2.1 _ rfl) (hv.2.2.2.2.2.1 _ rfl) (hv.2.2.2.2.2.2.1 _ rfl))
noncomputable def d_X0_findQuarrels (x0 : Nat) (x1 : Int32) (x2 : Nat) (m : dc_M) : Option dc_M :=
  ((d_J7_fill_53178 (x0 + 1) (-4 : Int32) (dc_wi (dc_wi (dc_wi (dc_wi m x0 0 (0 : Int32)) x0 1 (0 : Int32)) x0 2 (-4 : Int32)) x0 3 (-4 : Int32))).bind (fun q1 => (d_X0_findQuarrels_l33 x0 x1 x2 (0 : Int32) q1)))
set_option maxHeartbeats 8000000 in
theorem k_X0_findQuarrels {u : Nat} {N : Nat} {Φ : (Option dc_M) → Option Value → dc_M → Prop} (x0 : Nat) (x1 : Int32) (x2 : Nat) (m : dc_M) (kR : ∀  (m : dc_M), Φ (some (m)) (none) m)  {lv : ab_L} (f0 : ab_lk lv 0 = some (.ref x0)) (f1 : ab_lk lv 1 = some (.int x1)) (f2 : ab_lk lv 2 = some (.ref x2)) : dc_pv u N ab_M_X0_findQuarrels 0 lv [] m (Φ (d_X0_findQuarrels x0 x1 x2 m)) := by
  refine dc_pv.mono (dc_ok (C := C_X0_findQuarrels) (S := S_X0_findQuarrels) CO_X0_findQuarrels 400 0 [(0, .ref x0), (1, .int x1), (2, .ref x2)] lv [] m (dc_sub_cons f0 (dc_sub_cons f1 (dc_sub_cons f2 (dc_sub_nil)))) ?_) (Nat.le_succ N)
  unfold d_X0_findQuarrels
  refine dg_s (pc' := 1) [.ref x0] rfl (fun _ => rfl) rfl ?_
  refine dg_s (pc' := 2) [.int (0 : Int32), .ref x0] rfl (fun _ => rfl) rfl ?_
  refine dg_m (pc' := 5) (dc_wi m x0 0 (0 : Int32)) [] rfl (fun _ => rfl) rfl ?_
  refine dg_s (pc' := 6) [.ref x0] rfl (fun _ => rfl) rfl ?_
  refine dg_s (pc' := 7) [.int (0 : Int32), .ref x0] rfl (fun _ => rfl) rfl ?_
  refine dg_m (pc' := 10) (dc_wi (dc_wi m x0 0 (0 : Int32)) x0 1 (0 : Int32)) [] rfl (fun _ => rfl) rfl ?_
  refine dg_s (pc' := 11) [.ref x0] rfl (fun _ => rfl) rfl ?_
  refine dg_s (pc' := 13) [.int (-4 : Int32), .ref x0] rfl (fun _ => rfl) rfl ?_
  refine dg_m (pc' := 16) (dc_wi (dc_wi (dc_wi m x0 0 (0 : Int32)) x0 1 (0 : Int32)) x0 2 (-4 : Int32)) [] rfl (fun _ => rfl) rfl ?_
  refine dg_s (pc' := 17) [.ref x0] rfl (fun _ => rfl) rfl ?_
  refine dg_s (pc' := 19) [.int (-4 : Int32), .ref x0] rfl (fun _ => rfl) rfl ?_
  refine dg_m (pc' := 22) (dc_wi (dc_wi (dc_wi (dc_wi m x0 0 (0 : Int32)) x0 1 (0 : Int32)) x0 2 (-4 : Int32)) x0 3 (-4 : Int32)) [] rfl (fun _ => rfl) rfl ?_
  refine dg_s (pc' := 23) [.ref x0] rfl (fun _ => rfl) rfl ?_
  refine dg_s (pc' := 26) [.ref (x0 + 1)] rfl (fun _ => rfl) rfl ?_
  refine dg_s (pc' := 28) [.int (-4 : Int32), .ref (x0 + 1)] rfl (fun _ => rfl) rfl ?_
  refine dw_b (fun t => Φ t) (pc' := 31) (fun q1 => []) (fun q1 => q1) rfl (fun _ => rfl) (fun q1 => ?_)
  refine dw_g rfl ?_
  refine dg_s (pc' := 32) [.int (0 : Int32)] rfl (fun _ => rfl) rfl ?_
  refine dw_L (pc' := 33) [(3, .int (0 : Int32)), (0, .ref x0), (1, .int x1), (2, .ref x2)] [] rfl (fun _ => rfl) ?_
  exact dw_j rfl (fun lv1 hv => k_X0_findQuarrels_l33 (Φ := (fun t => Φ t)) x0 x1 x2 (fun _b => kR _b) N  (0 : Int32) q1 lv1 (hv.1 _ rfl) (hv.2.1 _ rfl) (hv.2.2.1 _ rfl) (hv.2.2.2.1 _ rfl))
noncomputable def H_X0_findQuarrels : dc_H := fun As m k => match As with
  | [.ref x0, .int x1, .ref x2] => (d_X0_findQuarrels x0 x1 x2 m).bind (fun q => k (none) q)
  | _ => dc_kz
theorem H_X0_findQuarrels_ok {u : Nat} : dc_cok u 2 H_X0_findQuarrels := fun M' hG N As m k P hz hP => by
  obtain rfl : ab_M_X0_findQuarrels = M' := Option.some.inj hG
  unfold H_X0_findQuarrels at hP
  split at hP
  · rename_i x0 x1 x2
    exact dc_pv.imp (k_X0_findQuarrels (Φ := fun (t : Option dc_M) r m' => P (t.bind (fun q => k (none) q)) → P (k r m')) x0 x1 x2 m (fun _ h => h) rfl rfl rfl) (fun r m' h => h hP)
  · exact absurd hP hz
def C_X0_addTakenBack : List (Nat × dc_H) := []
theorem CO_X0_addTakenBack {u : Nat} : dc_CO u C_X0_addTakenBack := dc_CO_nil
def S_X0_addTakenBack : List (Nat × List Nat) := [(3, [0, 1, 2, 3, 4, 5, 6]), (63, [0, 1, 2, 3, 4, 5, 6])]
noncomputable def d_X0_addTakenBack_b63 (x0 : Nat) (x1 : Nat) (x2 : Int32) (x3 : Int32) (x4 : Int32) (x5 : Int32) (x6 : Int32) (m : dc_M) : Option ((Int32 × dc_M) ⊕ dc_M) :=
  some (Sum.inl ((x6 + (1 : Int32)), (dc_wi (dc_wi (dc_wi (dc_wi m x0 5 x4) x0 6 x6) x0 7 x5) x0 4 (((dc_wi (dc_wi (dc_wi m x0 5 x4) x0 6 x6) x0 7 x5).1 x0 4) + (1 : Int32)))))
set_option maxHeartbeats 8000000 in
theorem k_X0_addTakenBack_b63 {u : Nat} {N : Nat} {Φ : (Option ((Int32 × dc_M) ⊕ dc_M)) → Option Value → dc_M → Prop} (x0 : Nat) (x1 : Nat) (x2 : Int32) (x3 : Int32) (x4 : Int32) (x5 : Int32) (x6 : Int32) (m : dc_M) (kR : ∀  (m : dc_M), Φ (some (Sum.inr (m))) (none) m) (k3 : ∀ (x6 : Int32) (m : dc_M) (lv : ab_L), ab_lk lv 0 = some (.ref x0) → ab_lk lv 1 = some (.ref x1) → ab_lk lv 2 = some (.int x2) → ab_lk lv 3 = some (.int x3) → ab_lk lv 4 = some (.int x4) → ab_lk lv 5 = some (.int x5) → ab_lk lv 6 = some (.int x6) →  dc_pv u N ab_M_X0_addTakenBack 3 lv [] m (Φ (some (Sum.inl (x6, m))))) {lv : ab_L} (f0 : ab_lk lv 0 = some (.ref x0)) (f1 : ab_lk lv 1 = some (.ref x1)) (f2 : ab_lk lv 2 = some (.int x2)) (f3 : ab_lk lv 3 = some (.int x3)) (f4 : ab_lk lv 4 = some (.int x4)) (f5 : ab_lk lv 5 = some (.int x5)) (f6 : ab_lk lv 6 = some (.int x6)) : dc_pv u N ab_M_X0_addTakenBack 63 lv [] m (Φ (d_X0_addTakenBack_b63 x0 x1 x2 x3 x4 x5 x6 m)) := by
  refine dc_pv.mono (dc_ok (C := C_X0_addTakenBack) (S := S_X0_addTakenBack) CO_X0_addTakenBack 400 63 [(0, .ref x0), (1, .ref x1), (2, .int x2), (3, .int x3), (4, .int x4), (5, .int x5), (6, .int x6)] lv [] m (dc_sub_cons f0 (dc_sub_cons f1 (dc_sub_cons f2 (dc_sub_cons f3 (dc_sub_cons f4 (dc_sub_cons f5 (dc_sub_cons f6 (dc_sub_nil)))))))) ?_) (Nat.le_succ N)
  unfold d_X0_addTakenBack_b63
  refine dg_s (pc' := 64) [.ref x0] rfl (fun _ => rfl) rfl ?_
  refine dg_s (pc' := 66) [.int x4, .ref x0] rfl (fun _ => rfl) rfl ?_
  refine dg_m (pc' := 69) (dc_wi m x0 5 x4) [] rfl (fun _ => rfl) rfl ?_
  refine dg_s (pc' := 70) [.ref x0] rfl (fun _ => rfl) rfl ?_
  refine dg_s (pc' := 72) [.int x6, .ref x0] rfl (fun _ => rfl) rfl ?_
  refine dg_m (pc' := 75) (dc_wi (dc_wi m x0 5 x4) x0 6 x6) [] rfl (fun _ => rfl) rfl ?_
  refine dg_s (pc' := 76) [.ref x0] rfl (fun _ => rfl) rfl ?_
  refine dg_s (pc' := 78) [.int x5, .ref x0] rfl (fun _ => rfl) rfl ?_
  refine dg_m (pc' := 81) (dc_wi (dc_wi (dc_wi m x0 5 x4) x0 6 x6) x0 7 x5) [] rfl (fun _ => rfl) rfl ?_
  refine dg_s (pc' := 82) [.ref x0] rfl (fun _ => rfl) rfl ?_
  refine dg_s (pc' := 83) [.ref x0, .ref x0] rfl (fun _ => rfl) rfl ?_
  refine dg_s (pc' := 86) [.int ((dc_wi (dc_wi (dc_wi m x0 5 x4) x0 6 x6) x0 7 x5).1 x0 4), .ref x0] rfl (fun _ => rfl) rfl ?_
  refine dg_s (pc' := 87) [.int (1 : Int32), .int ((dc_wi (dc_wi (dc_wi m x0 5 x4) x0 6 x6) x0 7 x5).1 x0 4), .ref x0] rfl (fun _ => rfl) rfl ?_
  refine dg_s (pc' := 88) [.int (((dc_wi (dc_wi (dc_wi m x0 5 x4) x0 6 x6) x0 7 x5).1 x0 4) + (1 : Int32)), .ref x0] rfl (fun _ => rfl) rfl ?_
  refine dg_m (pc' := 91) (dc_wi (dc_wi (dc_wi (dc_wi m x0 5 x4) x0 6 x6) x0 7 x5) x0 4 (((dc_wi (dc_wi (dc_wi m x0 5 x4) x0 6 x6) x0 7 x5).1 x0 4) + (1 : Int32))) [] rfl (fun _ => rfl) rfl ?_
  refine dg_L (pc' := 94) [(6, .int (x6 + (1 : Int32))), (0, .ref x0), (1, .ref x1), (2, .int x2), (3, .int x3), (4, .int x4), (5, .int x5)] [] rfl (fun _ => rfl) rfl ?_
  refine dw_s (pc' := 3) [] rfl (fun _ => rfl) ?_
  exact dw_j rfl (fun lv1 hv => k3 (x6 + (1 : Int32)) (dc_wi (dc_wi (dc_wi (dc_wi m x0 5 x4) x0 6 x6) x0 7 x5) x0 4 (((dc_wi (dc_wi (dc_wi m x0 5 x4) x0 6 x6) x0 7 x5).1 x0 4) + (1 : Int32))) lv1 (hv.1 _ rfl) (hv.2.1 _ rfl) (hv.2.2.1 _ rfl) (hv.2.2.2.1 _ rfl) (hv.2.2.2.2.1 _ rfl) (hv.2.2.2.2.2.1 _ rfl) (hv.2.2.2.2.2.2.1 _ rfl))
noncomputable def d_X0_addTakenBack_l3b (x0 : Nat) (x1 : Nat) (x2 : Int32) (x3 : Int32) (x4 : Int32) (x5 : Int32) (x6 : Int32) (m : dc_M) : Option ((Int32 × dc_M) ⊕ dc_M) :=
  (if (Int32.toInt (m.1 x1 1)) ≤ (Int32.toInt x6) then some (Sum.inr (m)) else (if (Int32.toInt ((x3 >>> (x6 &&& 31)) &&& (1 : Int32))) = 0 then some (Sum.inl ((x6 + (1 : Int32)), m)) else (if ¬ (Int32.toInt ((x2 >>> ((m.1 (x1 + 3) (Int32.toNatClampNeg x6)) &&& 31)) &&& (1 : Int32))) = 0 then (if (Int32.toInt (m.1 x0 4)) = 0 then (d_X0_addTakenBack_b63 x0 x1 x2 x3 x4 x5 x6 m) else (if ¬ (Int32.toInt x4) = (Int32.toInt (m.1 x0 5)) then some (Sum.inl ((x6 + (1 : Int32)), (dc_wi m x0 4 ((m.1 x0 4) + (1 : Int32))))) else (if (Int32.toInt (m.1 x0 6)) ≤ (Int32.toInt x6) then some (Sum.inl ((x6 + (1 : Int32)), (dc_wi m x0 4 ((m.1 x0 4) + (1 : Int32))))) else (d_X0_addTakenBack_b63 x0 x1 x2 x3 x4 x5 x6 m)))) else some (Sum.inl ((x6 + (1 : Int32)), m)))))
noncomputable def d_X0_addTakenBack_l3s (x0 : Nat) (x1 : Nat) (x2 : Int32) (x3 : Int32) (x4 : Int32) (x5 : Int32) : (Int32 × dc_M) → Option ((Int32 × dc_M) ⊕ dc_M) := fun s => d_X0_addTakenBack_l3b x0 x1 x2 x3 x4 x5 s.1 s.2
noncomputable def d_X0_addTakenBack_l3 (x0 : Nat) (x1 : Nat) (x2 : Int32) (x3 : Int32) (x4 : Int32) (x5 : Int32) (x6 : Int32) (m : dc_M) : Option dc_M := dc_lp (d_X0_addTakenBack_l3s x0 x1 x2 x3 x4 x5) (x6, m)
set_option maxHeartbeats 8000000 in
theorem k_X0_addTakenBack_l3 {u : Nat} {Φ : (Option dc_M) → Option Value → dc_M → Prop} (x0 : Nat) (x1 : Nat) (x2 : Int32) (x3 : Int32) (x4 : Int32) (x5 : Int32) (kR : ∀  (m : dc_M), Φ (some (m)) (none) m) : ∀ (N : Nat), ∀ (x6 : Int32) (m : dc_M) (lv : ab_L), ab_lk lv 0 = some (.ref x0) → ab_lk lv 1 = some (.ref x1) → ab_lk lv 2 = some (.int x2) → ab_lk lv 3 = some (.int x3) → ab_lk lv 4 = some (.int x4) → ab_lk lv 5 = some (.int x5) → ab_lk lv 6 = some (.int x6) → dc_pv u N ab_M_X0_addTakenBack 3 lv [] m (Φ (d_X0_addTakenBack_l3 x0 x1 x2 x3 x4 x5 x6 m)) := by
  intro N
  induction N with
  | zero => intros; exact dc_pv_zero
  | succ N ih =>
    intro x6 m lv f0 f1 f2 f3 f4 f5 f6
    refine dc_ok (C := C_X0_addTakenBack) (S := S_X0_addTakenBack) CO_X0_addTakenBack 400 3 [(0, .ref x0), (1, .ref x1), (2, .int x2), (3, .int x3), (4, .int x4), (5, .int x5), (6, .int x6)] lv [] m (dc_sub_cons f0 (dc_sub_cons f1 (dc_sub_cons f2 (dc_sub_cons f3 (dc_sub_cons f4 (dc_sub_cons f5 (dc_sub_cons f6 (dc_sub_nil)))))))) ?_
    unfold d_X0_addTakenBack_l3
    rw [dc_lp_eq]
    show (fun t x => dc_lf u N ab_M_X0_addTakenBack (Φ (Option.bind t (dc_bk (d_X0_addTakenBack_l3s x0 x1 x2 x3 x4 x5)))) x) (d_X0_addTakenBack_l3b x0 x1 x2 x3 x4 x5 x6 m) _
    dsimp only
    unfold d_X0_addTakenBack_l3b
    refine dg_s (pc' := 5) [.int x6] rfl (fun _ => rfl) rfl ?_
    refine dg_s (pc' := 6) [.ref x1, .int x6] rfl (fun _ => rfl) rfl ?_
    refine dg_s (pc' := 9) [.int (m.1 x1 1), .int x6] rfl (fun _ => rfl) rfl ?_
    refine dw_if (fun t => Φ (Option.bind t (dc_bk (d_X0_addTakenBack_l3s x0 x1 x2 x3 x4 x5)))) ((Int32.toInt (m.1 x1 1)) ≤ (Int32.toInt x6)) [] 97 12 rfl (fun _ => rfl) (fun c0 => ?_) (fun c0 => ?_)
    · refine dw_g rfl ?_
      exact dw_r (some (.inl (none, m))) rfl (fun _ => rfl) (kR _)
    · refine dw_g rfl ?_
      refine dg_s (pc' := 13) [.int x3] rfl (fun _ => rfl) rfl ?_
      refine dg_s (pc' := 15) [.int x6, .int x3] rfl (fun _ => rfl) rfl ?_
      refine dg_s (pc' := 16) [.int (x3 >>> (x6 &&& 31))] rfl (fun _ => rfl) rfl ?_
      refine dg_s (pc' := 17) [.int (1 : Int32), .int (x3 >>> (x6 &&& 31))] rfl (fun _ => rfl) rfl ?_
      refine dg_s (pc' := 18) [.int ((x3 >>> (x6 &&& 31)) &&& (1 : Int32))] rfl (fun _ => rfl) rfl ?_
      refine dw_if (fun t => Φ (Option.bind t (dc_bk (d_X0_addTakenBack_l3s x0 x1 x2 x3 x4 x5)))) ((Int32.toInt ((x3 >>> (x6 &&& 31)) &&& (1 : Int32))) = 0) [] 91 21 rfl (fun _ => rfl) (fun c1 => ?_) (fun c1 => ?_)
      · refine dw_g rfl ?_
        refine dg_L (pc' := 94) [(6, .int (x6 + (1 : Int32))), (0, .ref x0), (1, .ref x1), (2, .int x2), (3, .int x3), (4, .int x4), (5, .int x5)] [] rfl (fun _ => rfl) rfl ?_
        refine dw_s (pc' := 3) [] rfl (fun _ => rfl) ?_
        exact dw_j rfl (fun lv1 hv => ih (x6 + (1 : Int32)) m lv1 (hv.1 _ rfl) (hv.2.1 _ rfl) (hv.2.2.1 _ rfl) (hv.2.2.2.1 _ rfl) (hv.2.2.2.2.1 _ rfl) (hv.2.2.2.2.2.1 _ rfl) (hv.2.2.2.2.2.2.1 _ rfl))
      · refine dw_g rfl ?_
        refine dg_s (pc' := 22) [.int x2] rfl (fun _ => rfl) rfl ?_
        refine dg_s (pc' := 23) [.ref x1, .int x2] rfl (fun _ => rfl) rfl ?_
        refine dg_s (pc' := 26) [.ref (x1 + 3), .int x2] rfl (fun _ => rfl) rfl ?_
        refine dg_s (pc' := 28) [.int x6, .ref (x1 + 3), .int x2] rfl (fun _ => rfl) rfl ?_
        refine dg_s (pc' := 29) [.int (m.1 (x1 + 3) (Int32.toNatClampNeg x6)), .int x2] rfl (fun _ => rfl) rfl ?_
        refine dg_s (pc' := 30) [.int (x2 >>> ((m.1 (x1 + 3) (Int32.toNatClampNeg x6)) &&& 31))] rfl (fun _ => rfl) rfl ?_
        refine dg_s (pc' := 31) [.int (1 : Int32), .int (x2 >>> ((m.1 (x1 + 3) (Int32.toNatClampNeg x6)) &&& 31))] rfl (fun _ => rfl) rfl ?_
        refine dg_s (pc' := 32) [.int ((x2 >>> ((m.1 (x1 + 3) (Int32.toNatClampNeg x6)) &&& 31)) &&& (1 : Int32))] rfl (fun _ => rfl) rfl ?_
        refine dw_if (fun t => Φ (Option.bind t (dc_bk (d_X0_addTakenBack_l3s x0 x1 x2 x3 x4 x5)))) (¬ (Int32.toInt ((x2 >>> ((m.1 (x1 + 3) (Int32.toNatClampNeg x6)) &&& 31)) &&& (1 : Int32))) = 0) [] 38 35 rfl (fun _ => rfl) (fun c2 => ?_) (fun c2 => ?_)
        · refine dw_g rfl ?_
          refine dg_s (pc' := 39) [.ref x0] rfl (fun _ => rfl) rfl ?_
          refine dg_s (pc' := 42) [.int (m.1 x0 4)] rfl (fun _ => rfl) rfl ?_
          refine dw_if (fun t => Φ (Option.bind t (dc_bk (d_X0_addTakenBack_l3s x0 x1 x2 x3 x4 x5)))) ((Int32.toInt (m.1 x0 4)) = 0) [] 63 45 rfl (fun _ => rfl) (fun c3 => ?_) (fun c3 => ?_)
          · exact dw_j rfl (fun lv1 hv => k_X0_addTakenBack_b63 (Φ := (fun t => Φ (Option.bind t (dc_bk (d_X0_addTakenBack_l3s x0 x1 x2 x3 x4 x5))))) x0 x1 x2 x3 x4 x5 x6 m (fun _b => kR _b) ih (hv.1 _ rfl) (hv.2.1 _ rfl) (hv.2.2.1 _ rfl) (hv.2.2.2.1 _ rfl) (hv.2.2.2.2.1 _ rfl) (hv.2.2.2.2.2.1 _ rfl) (hv.2.2.2.2.2.2.1 _ rfl))
          · refine dw_g rfl ?_
            refine dg_s (pc' := 47) [.int x4] rfl (fun _ => rfl) rfl ?_
            refine dg_s (pc' := 48) [.ref x0, .int x4] rfl (fun _ => rfl) rfl ?_
            refine dg_s (pc' := 51) [.int (m.1 x0 5), .int x4] rfl (fun _ => rfl) rfl ?_
            refine dw_if (fun t => Φ (Option.bind t (dc_bk (d_X0_addTakenBack_l3s x0 x1 x2 x3 x4 x5)))) (¬ (Int32.toInt x4) = (Int32.toInt (m.1 x0 5))) [] 81 54 rfl (fun _ => rfl) (fun c4 => ?_) (fun c4 => ?_)
            · refine dw_g rfl ?_
              refine dg_s (pc' := 82) [.ref x0] rfl (fun _ => rfl) rfl ?_
              refine dg_s (pc' := 83) [.ref x0, .ref x0] rfl (fun _ => rfl) rfl ?_
              refine dg_s (pc' := 86) [.int (m.1 x0 4), .ref x0] rfl (fun _ => rfl) rfl ?_
              refine dg_s (pc' := 87) [.int (1 : Int32), .int (m.1 x0 4), .ref x0] rfl (fun _ => rfl) rfl ?_
              refine dg_s (pc' := 88) [.int ((m.1 x0 4) + (1 : Int32)), .ref x0] rfl (fun _ => rfl) rfl ?_
              refine dg_m (pc' := 91) (dc_wi m x0 4 ((m.1 x0 4) + (1 : Int32))) [] rfl (fun _ => rfl) rfl ?_
              refine dg_L (pc' := 94) [(6, .int (x6 + (1 : Int32))), (0, .ref x0), (1, .ref x1), (2, .int x2), (3, .int x3), (4, .int x4), (5, .int x5)] [] rfl (fun _ => rfl) rfl ?_
              refine dw_s (pc' := 3) [] rfl (fun _ => rfl) ?_
              exact dw_j rfl (fun lv1 hv => ih (x6 + (1 : Int32)) (dc_wi m x0 4 ((m.1 x0 4) + (1 : Int32))) lv1 (hv.1 _ rfl) (hv.2.1 _ rfl) (hv.2.2.1 _ rfl) (hv.2.2.2.1 _ rfl) (hv.2.2.2.2.1 _ rfl) (hv.2.2.2.2.2.1 _ rfl) (hv.2.2.2.2.2.2.1 _ rfl))
            · refine dw_g rfl ?_
              refine dg_s (pc' := 56) [.int x6] rfl (fun _ => rfl) rfl ?_
              refine dg_s (pc' := 57) [.ref x0, .int x6] rfl (fun _ => rfl) rfl ?_
              refine dg_s (pc' := 60) [.int (m.1 x0 6), .int x6] rfl (fun _ => rfl) rfl ?_
              refine dw_if (fun t => Φ (Option.bind t (dc_bk (d_X0_addTakenBack_l3s x0 x1 x2 x3 x4 x5)))) ((Int32.toInt (m.1 x0 6)) ≤ (Int32.toInt x6)) [] 81 63 rfl (fun _ => rfl) (fun c5 => ?_) (fun c5 => ?_)
              · refine dw_g rfl ?_
                refine dg_s (pc' := 82) [.ref x0] rfl (fun _ => rfl) rfl ?_
                refine dg_s (pc' := 83) [.ref x0, .ref x0] rfl (fun _ => rfl) rfl ?_
                refine dg_s (pc' := 86) [.int (m.1 x0 4), .ref x0] rfl (fun _ => rfl) rfl ?_
                refine dg_s (pc' := 87) [.int (1 : Int32), .int (m.1 x0 4), .ref x0] rfl (fun _ => rfl) rfl ?_
                refine dg_s (pc' := 88) [.int ((m.1 x0 4) + (1 : Int32)), .ref x0] rfl (fun _ => rfl) rfl ?_
                refine dg_m (pc' := 91) (dc_wi m x0 4 ((m.1 x0 4) + (1 : Int32))) [] rfl (fun _ => rfl) rfl ?_
                refine dg_L (pc' := 94) [(6, .int (x6 + (1 : Int32))), (0, .ref x0), (1, .ref x1), (2, .int x2), (3, .int x3), (4, .int x4), (5, .int x5)] [] rfl (fun _ => rfl) rfl ?_
                refine dw_s (pc' := 3) [] rfl (fun _ => rfl) ?_
                exact dw_j rfl (fun lv1 hv => ih (x6 + (1 : Int32)) (dc_wi m x0 4 ((m.1 x0 4) + (1 : Int32))) lv1 (hv.1 _ rfl) (hv.2.1 _ rfl) (hv.2.2.1 _ rfl) (hv.2.2.2.1 _ rfl) (hv.2.2.2.2.1 _ rfl) (hv.2.2.2.2.2.1 _ rfl) (hv.2.2.2.2.2.2.1 _ rfl))
              · exact dw_j rfl (fun lv1 hv => k_X0_addTakenBack_b63 (Φ := (fun t => Φ (Option.bind t (dc_bk (d_X0_addTakenBack_l3s x0 x1 x2 x3 x4 x5))))) x0 x1 x2 x3 x4 x5 x6 m (fun _b => kR _b) ih (hv.1 _ rfl) (hv.2.1 _ rfl) (hv.2.2.1 _ rfl) (hv.2.2.2.1 _ rfl) (hv.2.2.2.2.1 _ rfl) (hv.2.2.2.2.2.1 _ rfl) (hv.2.2.2.2.2.2.1 _ rfl))
        · refine dw_g rfl ?_
          refine dg_s (pc' := 91) [] rfl (fun _ => rfl) rfl ?_
          refine dg_L (pc' := 94) [(6, .int (x6 + (1 : Int32))), (0, .ref x0), (1, .ref x1), (2, .int x2), (3, .int x3), (4, .int x4), (5, .int x5)] [] rfl (fun _ => rfl) rfl ?_
          refine dw_s (pc' := 3) [] rfl (fun _ => rfl) ?_
          exact dw_j rfl (fun lv1 hv => ih (x6 + (1 : Int32)) m lv1 (hv.1 _ rfl) (hv.2.1 _ rfl) (hv.2.2.1 _ rfl) (hv.2.2.2.1 _ rfl) (hv.2.2.2.2.1 _ rfl) (hv.2.2.2.2.2.1 _ rfl) (hv.2.2.2.2.2.2.1 _ rfl))
noncomputable def d_X0_addTakenBack (x0 : Nat) (x1 : Nat) (x2 : Int32) (x3 : Int32) (x4 : Int32) (x5 : Int32) (m : dc_M) : Option dc_M :=
  (d_X0_addTakenBack_l3 x0 x1 x2 x3 x4 x5 (0 : Int32) m)
set_option maxHeartbeats 8000000 in
theorem k_X0_addTakenBack {u : Nat} {N : Nat} {Φ : (Option dc_M) → Option Value → dc_M → Prop} (x0 : Nat) (x1 : Nat) (x2 : Int32) (x3 : Int32) (x4 : Int32) (x5 : Int32) (m : dc_M) (kR : ∀  (m : dc_M), Φ (some (m)) (none) m)  {lv : ab_L} (f0 : ab_lk lv 0 = some (.ref x0)) (f1 : ab_lk lv 1 = some (.ref x1)) (f2 : ab_lk lv 2 = some (.int x2)) (f3 : ab_lk lv 3 = some (.int x3)) (f4 : ab_lk lv 4 = some (.int x4)) (f5 : ab_lk lv 5 = some (.int x5)) : dc_pv u N ab_M_X0_addTakenBack 0 lv [] m (Φ (d_X0_addTakenBack x0 x1 x2 x3 x4 x5 m)) := by
  refine dc_pv.mono (dc_ok (C := C_X0_addTakenBack) (S := S_X0_addTakenBack) CO_X0_addTakenBack 400 0 [(0, .ref x0), (1, .ref x1), (2, .int x2), (3, .int x3), (4, .int x4), (5, .int x5)] lv [] m (dc_sub_cons f0 (dc_sub_cons f1 (dc_sub_cons f2 (dc_sub_cons f3 (dc_sub_cons f4 (dc_sub_cons f5 (dc_sub_nil))))))) ?_) (Nat.le_succ N)
  unfold d_X0_addTakenBack
  refine dg_s (pc' := 1) [.int (0 : Int32)] rfl (fun _ => rfl) rfl ?_
  refine dw_L (pc' := 3) [(6, .int (0 : Int32)), (0, .ref x0), (1, .ref x1), (2, .int x2), (3, .int x3), (4, .int x4), (5, .int x5)] [] rfl (fun _ => rfl) ?_
  exact dw_j rfl (fun lv1 hv => k_X0_addTakenBack_l3 (Φ := (fun t => Φ t)) x0 x1 x2 x3 x4 x5 (fun _b => kR _b) N  (0 : Int32) m lv1 (hv.1 _ rfl) (hv.2.1 _ rfl) (hv.2.2.1 _ rfl) (hv.2.2.2.1 _ rfl) (hv.2.2.2.2.1 _ rfl) (hv.2.2.2.2.2.1 _ rfl) (hv.2.2.2.2.2.2.1 _ rfl))
noncomputable def H_X0_addTakenBack : dc_H := fun As m k => match As with
  | [.ref x0, .ref x1, .int x2, .int x3, .int x4, .int x5] => (d_X0_addTakenBack x0 x1 x2 x3 x4 x5 m).bind (fun q => k (none) q)
  | _ => dc_kz
theorem H_X0_addTakenBack_ok {u : Nat} : dc_cok u 5 H_X0_addTakenBack := fun M' hG N As m k P hz hP => by
  obtain rfl : ab_M_X0_addTakenBack = M' := Option.some.inj hG
  unfold H_X0_addTakenBack at hP
  split at hP
  · rename_i x0 x1 x2 x3 x4 x5
    exact dc_pv.imp (k_X0_addTakenBack (Φ := fun (t : Option dc_M) r m' => P (t.bind (fun q => k (none) q)) → P (k r m')) x0 x1 x2 x3 x4 x5 m (fun _ h => h) rfl rfl rfl rfl rfl rfl) (fun r m' h => h hP)
  · exact absurd hP hz
noncomputable def C_X0_findTakenBack : List (Nat × dc_H) := [(5, H_X0_addTakenBack), (84, H_X7_behind)]
theorem CO_X0_findTakenBack {u : Nat} : dc_CO u C_X0_findTakenBack := dc_CO_cons H_X0_addTakenBack_ok (dc_CO_cons H_X7_behind_ok (dc_CO_nil))
def S_X0_findTakenBack : List (Nat × List Nat) := [(26, [0, 1, 2, 3, 4]), (38, [0, 1, 2, 3, 4, 5])]
noncomputable def d_X0_findTakenBack_l38b (x0 : Nat) (x1 : Nat) (x2 : Int32) (x3 : Nat) (x4 : Int32) (x5 : Int32) (m : dc_M) : Option ((Int32 × dc_M) ⊕ ((Int32 × dc_M) ⊕ dc_M)) :=
  (if (Int32.toInt (m.1 x1 1)) ≤ (Int32.toInt x5) then some (Sum.inr (Sum.inl ((x4 + (1 : Int32)), m))) else (if 0 ≤ (Int32.toInt (d_X7_behind x3 x4 x5 m)) then (if (Int32.toInt ((((m.1 (x3 + 4) (Int32.toNatClampNeg x4)) &&& ((m.1 (x3 + 4) (Int32.toNatClampNeg (d_X7_behind x3 x4 x5 m))) ^^^ (-1 : Int32))) &&& x2) &&& (((1 : Int32) <<< ((m.1 (x1 + 3) (Int32.toNatClampNeg x5)) &&& 31)) ^^^ (-1 : Int32)))) = 0 then some (Sum.inl ((x5 + (1 : Int32)), m)) else ((d_X0_addTakenBack x0 x1 ((((m.1 (x3 + 4) (Int32.toNatClampNeg x4)) &&& ((m.1 (x3 + 4) (Int32.toNatClampNeg (d_X7_behind x3 x4 x5 m))) ^^^ (-1 : Int32))) &&& x2) &&& (((1 : Int32) <<< ((m.1 (x1 + 3) (Int32.toNatClampNeg x5)) &&& 31)) ^^^ (-1 : Int32))) (m.1 (x3 + 2) (Int32.toNatClampNeg x4)) x4 x5 m).bind (fun q1 => some (Sum.inl ((x5 + (1 : Int32)), q1))))) else some (Sum.inl ((x5 + (1 : Int32)), m))))
noncomputable def d_X0_findTakenBack_l38s (x0 : Nat) (x1 : Nat) (x2 : Int32) (x3 : Nat) (x4 : Int32) : (Int32 × dc_M) → Option ((Int32 × dc_M) ⊕ ((Int32 × dc_M) ⊕ dc_M)) := fun s => d_X0_findTakenBack_l38b x0 x1 x2 x3 x4 s.1 s.2
noncomputable def d_X0_findTakenBack_l38 (x0 : Nat) (x1 : Nat) (x2 : Int32) (x3 : Nat) (x4 : Int32) (x5 : Int32) (m : dc_M) : Option ((Int32 × dc_M) ⊕ dc_M) := dc_lp (d_X0_findTakenBack_l38s x0 x1 x2 x3 x4) (x5, m)
set_option maxHeartbeats 8000000 in
theorem k_X0_findTakenBack_l38 {u : Nat} {Φ : (Option ((Int32 × dc_M) ⊕ dc_M)) → Option Value → dc_M → Prop} (x0 : Nat) (x1 : Nat) (x2 : Int32) (x3 : Nat) (x4 : Int32) (kR : ∀  (m : dc_M), Φ (some (Sum.inr (m))) (none) m) : ∀ (N : Nat), (∀ (x4 : Int32) (m : dc_M) (lv : ab_L), ab_lk lv 0 = some (.ref x0) → ab_lk lv 1 = some (.ref x1) → ab_lk lv 2 = some (.int x2) → ab_lk lv 3 = some (.ref x3) → ab_lk lv 4 = some (.int x4) →  dc_pv u N ab_M_X0_findTakenBack 26 lv [] m (Φ (some (Sum.inl (x4, m))))) → ∀ (x5 : Int32) (m : dc_M) (lv : ab_L), ab_lk lv 0 = some (.ref x0) → ab_lk lv 1 = some (.ref x1) → ab_lk lv 2 = some (.int x2) → ab_lk lv 3 = some (.ref x3) → ab_lk lv 4 = some (.int x4) → ab_lk lv 5 = some (.int x5) → dc_pv u N ab_M_X0_findTakenBack 38 lv [] m (Φ (d_X0_findTakenBack_l38 x0 x1 x2 x3 x4 x5 m)) := by
  intro N
  induction N with
  | zero => intros; exact dc_pv_zero
  | succ N ih =>
    intro k26 x5 m lv f0 f1 f2 f3 f4 f5
    have k26 := fun a0 a1 a2 a3 a4 a5 a6 a7 => (k26 a0 a1 a2 a3 a4 a5 a6 a7).mono (Nat.le_succ N)
    have ih := ih k26
    refine dc_ok (C := C_X0_findTakenBack) (S := S_X0_findTakenBack) CO_X0_findTakenBack 400 38 [(0, .ref x0), (1, .ref x1), (2, .int x2), (3, .ref x3), (4, .int x4), (5, .int x5)] lv [] m (dc_sub_cons f0 (dc_sub_cons f1 (dc_sub_cons f2 (dc_sub_cons f3 (dc_sub_cons f4 (dc_sub_cons f5 (dc_sub_nil))))))) ?_
    unfold d_X0_findTakenBack_l38
    rw [dc_lp_eq]
    show (fun t x => dc_lf u N ab_M_X0_findTakenBack (Φ (Option.bind t (dc_bk (d_X0_findTakenBack_l38s x0 x1 x2 x3 x4)))) x) (d_X0_findTakenBack_l38b x0 x1 x2 x3 x4 x5 m) _
    dsimp only
    unfold d_X0_findTakenBack_l38b
    refine dg_s (pc' := 40) [.int x5] rfl (fun _ => rfl) rfl ?_
    refine dg_s (pc' := 41) [.ref x1, .int x5] rfl (fun _ => rfl) rfl ?_
    refine dg_s (pc' := 44) [.int (m.1 x1 1), .int x5] rfl (fun _ => rfl) rfl ?_
    refine dw_if (fun t => Φ (Option.bind t (dc_bk (d_X0_findTakenBack_l38s x0 x1 x2 x3 x4)))) ((Int32.toInt (m.1 x1 1)) ≤ (Int32.toInt x5)) [] 127 47 rfl (fun _ => rfl) (fun c0 => ?_) (fun c0 => ?_)
    · refine dw_g rfl ?_
      refine dg_L (pc' := 130) [(4, .int (x4 + (1 : Int32))), (0, .ref x0), (1, .ref x1), (2, .int x2), (3, .ref x3), (5, .int x5)] [] rfl (fun _ => rfl) rfl ?_
      refine dw_s (pc' := 26) [] rfl (fun _ => rfl) ?_
      exact dw_j rfl (fun lv1 hv => k26 (x4 + (1 : Int32)) m lv1 (hv.1 _ rfl) (hv.2.1 _ rfl) (hv.2.2.1 _ rfl) (hv.2.2.2.1 _ rfl) (hv.2.2.2.2.1 _ rfl))
    · refine dw_g rfl ?_
      refine dg_s (pc' := 48) [.ref x3] rfl (fun _ => rfl) rfl ?_
      refine dg_s (pc' := 50) [.int x4, .ref x3] rfl (fun _ => rfl) rfl ?_
      refine dg_s (pc' := 52) [.int x5, .int x4, .ref x3] rfl (fun _ => rfl) rfl ?_
      refine dg_s (pc' := 55) [.int (d_X7_behind x3 x4 x5 m)] rfl (fun _ => rfl) rfl ?_
      refine dg_L (pc' := 57) [(6, .int (d_X7_behind x3 x4 x5 m)), (0, .ref x0), (1, .ref x1), (2, .int x2), (3, .ref x3), (4, .int x4), (5, .int x5)] [] rfl (fun _ => rfl) rfl ?_
      refine dg_s (pc' := 59) [.int (d_X7_behind x3 x4 x5 m)] rfl (fun _ => rfl) rfl ?_
      refine dw_if (fun t => Φ (Option.bind t (dc_bk (d_X0_findTakenBack_l38s x0 x1 x2 x3 x4)))) (0 ≤ (Int32.toInt (d_X7_behind x3 x4 x5 m))) [] 65 62 rfl (fun _ => rfl) (fun c1 => ?_) (fun c1 => ?_)
      · refine dw_g rfl ?_
        refine dg_s (pc' := 66) [.ref x3] rfl (fun _ => rfl) rfl ?_
        refine dg_s (pc' := 69) [.ref (x3 + 4)] rfl (fun _ => rfl) rfl ?_
        refine dg_s (pc' := 71) [.int x4, .ref (x3 + 4)] rfl (fun _ => rfl) rfl ?_
        refine dg_s (pc' := 72) [.int (m.1 (x3 + 4) (Int32.toNatClampNeg x4))] rfl (fun _ => rfl) rfl ?_
        refine dg_s (pc' := 73) [.ref x3, .int (m.1 (x3 + 4) (Int32.toNatClampNeg x4))] rfl (fun _ => rfl) rfl ?_
        refine dg_s (pc' := 76) [.ref (x3 + 4), .int (m.1 (x3 + 4) (Int32.toNatClampNeg x4))] rfl (fun _ => rfl) rfl ?_
        refine dg_s (pc' := 78) [.int (d_X7_behind x3 x4 x5 m), .ref (x3 + 4), .int (m.1 (x3 + 4) (Int32.toNatClampNeg x4))] rfl (fun _ => rfl) rfl ?_
        refine dg_s (pc' := 79) [.int (m.1 (x3 + 4) (Int32.toNatClampNeg (d_X7_behind x3 x4 x5 m))), .int (m.1 (x3 + 4) (Int32.toNatClampNeg x4))] rfl (fun _ => rfl) rfl ?_
        refine dg_s (pc' := 80) [.int (-1 : Int32), .int (m.1 (x3 + 4) (Int32.toNatClampNeg (d_X7_behind x3 x4 x5 m))), .int (m.1 (x3 + 4) (Int32.toNatClampNeg x4))] rfl (fun _ => rfl) rfl ?_
        refine dg_s (pc' := 81) [.int ((m.1 (x3 + 4) (Int32.toNatClampNeg (d_X7_behind x3 x4 x5 m))) ^^^ (-1 : Int32)), .int (m.1 (x3 + 4) (Int32.toNatClampNeg x4))] rfl (fun _ => rfl) rfl ?_
        refine dg_s (pc' := 82) [.int ((m.1 (x3 + 4) (Int32.toNatClampNeg x4)) &&& ((m.1 (x3 + 4) (Int32.toNatClampNeg (d_X7_behind x3 x4 x5 m))) ^^^ (-1 : Int32)))] rfl (fun _ => rfl) rfl ?_
        refine dg_s (pc' := 83) [.int x2, .int ((m.1 (x3 + 4) (Int32.toNatClampNeg x4)) &&& ((m.1 (x3 + 4) (Int32.toNatClampNeg (d_X7_behind x3 x4 x5 m))) ^^^ (-1 : Int32)))] rfl (fun _ => rfl) rfl ?_
        refine dg_s (pc' := 84) [.int (((m.1 (x3 + 4) (Int32.toNatClampNeg x4)) &&& ((m.1 (x3 + 4) (Int32.toNatClampNeg (d_X7_behind x3 x4 x5 m))) ^^^ (-1 : Int32))) &&& x2)] rfl (fun _ => rfl) rfl ?_
        refine dg_s (pc' := 85) [.int (1 : Int32), .int (((m.1 (x3 + 4) (Int32.toNatClampNeg x4)) &&& ((m.1 (x3 + 4) (Int32.toNatClampNeg (d_X7_behind x3 x4 x5 m))) ^^^ (-1 : Int32))) &&& x2)] rfl (fun _ => rfl) rfl ?_
        refine dg_s (pc' := 86) [.ref x1, .int (1 : Int32), .int (((m.1 (x3 + 4) (Int32.toNatClampNeg x4)) &&& ((m.1 (x3 + 4) (Int32.toNatClampNeg (d_X7_behind x3 x4 x5 m))) ^^^ (-1 : Int32))) &&& x2)] rfl (fun _ => rfl) rfl ?_
        refine dg_s (pc' := 89) [.ref (x1 + 3), .int (1 : Int32), .int (((m.1 (x3 + 4) (Int32.toNatClampNeg x4)) &&& ((m.1 (x3 + 4) (Int32.toNatClampNeg (d_X7_behind x3 x4 x5 m))) ^^^ (-1 : Int32))) &&& x2)] rfl (fun _ => rfl) rfl ?_
        refine dg_s (pc' := 91) [.int x5, .ref (x1 + 3), .int (1 : Int32), .int (((m.1 (x3 + 4) (Int32.toNatClampNeg x4)) &&& ((m.1 (x3 + 4) (Int32.toNatClampNeg (d_X7_behind x3 x4 x5 m))) ^^^ (-1 : Int32))) &&& x2)] rfl (fun _ => rfl) rfl ?_
        refine dg_s (pc' := 92) [.int (m.1 (x1 + 3) (Int32.toNatClampNeg x5)), .int (1 : Int32), .int (((m.1 (x3 + 4) (Int32.toNatClampNeg x4)) &&& ((m.1 (x3 + 4) (Int32.toNatClampNeg (d_X7_behind x3 x4 x5 m))) ^^^ (-1 : Int32))) &&& x2)] rfl (fun _ => rfl) rfl ?_
        refine dg_s (pc' := 93) [.int ((1 : Int32) <<< ((m.1 (x1 + 3) (Int32.toNatClampNeg x5)) &&& 31)), .int (((m.1 (x3 + 4) (Int32.toNatClampNeg x4)) &&& ((m.1 (x3 + 4) (Int32.toNatClampNeg (d_X7_behind x3 x4 x5 m))) ^^^ (-1 : Int32))) &&& x2)] rfl (fun _ => rfl) rfl ?_
        refine dg_s (pc' := 94) [.int (-1 : Int32), .int ((1 : Int32) <<< ((m.1 (x1 + 3) (Int32.toNatClampNeg x5)) &&& 31)), .int (((m.1 (x3 + 4) (Int32.toNatClampNeg x4)) &&& ((m.1 (x3 + 4) (Int32.toNatClampNeg (d_X7_behind x3 x4 x5 m))) ^^^ (-1 : Int32))) &&& x2)] rfl (fun _ => rfl) rfl ?_
        refine dg_s (pc' := 95) [.int (((1 : Int32) <<< ((m.1 (x1 + 3) (Int32.toNatClampNeg x5)) &&& 31)) ^^^ (-1 : Int32)), .int (((m.1 (x3 + 4) (Int32.toNatClampNeg x4)) &&& ((m.1 (x3 + 4) (Int32.toNatClampNeg (d_X7_behind x3 x4 x5 m))) ^^^ (-1 : Int32))) &&& x2)] rfl (fun _ => rfl) rfl ?_
        refine dg_s (pc' := 96) [.int ((((m.1 (x3 + 4) (Int32.toNatClampNeg x4)) &&& ((m.1 (x3 + 4) (Int32.toNatClampNeg (d_X7_behind x3 x4 x5 m))) ^^^ (-1 : Int32))) &&& x2) &&& (((1 : Int32) <<< ((m.1 (x1 + 3) (Int32.toNatClampNeg x5)) &&& 31)) ^^^ (-1 : Int32)))] rfl (fun _ => rfl) rfl ?_
        refine dg_L (pc' := 98) [(7, .int ((((m.1 (x3 + 4) (Int32.toNatClampNeg x4)) &&& ((m.1 (x3 + 4) (Int32.toNatClampNeg (d_X7_behind x3 x4 x5 m))) ^^^ (-1 : Int32))) &&& x2) &&& (((1 : Int32) <<< ((m.1 (x1 + 3) (Int32.toNatClampNeg x5)) &&& 31)) ^^^ (-1 : Int32)))), (6, .int (d_X7_behind x3 x4 x5 m)), (0, .ref x0), (1, .ref x1), (2, .int x2), (3, .ref x3), (4, .int x4), (5, .int x5)] [] rfl (fun _ => rfl) rfl ?_
        refine dg_s (pc' := 100) [.int ((((m.1 (x3 + 4) (Int32.toNatClampNeg x4)) &&& ((m.1 (x3 + 4) (Int32.toNatClampNeg (d_X7_behind x3 x4 x5 m))) ^^^ (-1 : Int32))) &&& x2) &&& (((1 : Int32) <<< ((m.1 (x1 + 3) (Int32.toNatClampNeg x5)) &&& 31)) ^^^ (-1 : Int32)))] rfl (fun _ => rfl) rfl ?_
        refine dw_if (fun t => Φ (Option.bind t (dc_bk (d_X0_findTakenBack_l38s x0 x1 x2 x3 x4)))) ((Int32.toInt ((((m.1 (x3 + 4) (Int32.toNatClampNeg x4)) &&& ((m.1 (x3 + 4) (Int32.toNatClampNeg (d_X7_behind x3 x4 x5 m))) ^^^ (-1 : Int32))) &&& x2) &&& (((1 : Int32) <<< ((m.1 (x1 + 3) (Int32.toNatClampNeg x5)) &&& 31)) ^^^ (-1 : Int32)))) = 0) [] 121 103 rfl (fun _ => rfl) (fun c2 => ?_) (fun c2 => ?_)
        · refine dw_g rfl ?_
          refine dg_L (pc' := 124) [(5, .int (x5 + (1 : Int32))), (7, .int ((((m.1 (x3 + 4) (Int32.toNatClampNeg x4)) &&& ((m.1 (x3 + 4) (Int32.toNatClampNeg (d_X7_behind x3 x4 x5 m))) ^^^ (-1 : Int32))) &&& x2) &&& (((1 : Int32) <<< ((m.1 (x1 + 3) (Int32.toNatClampNeg x5)) &&& 31)) ^^^ (-1 : Int32)))), (6, .int (d_X7_behind x3 x4 x5 m)), (0, .ref x0), (1, .ref x1), (2, .int x2), (3, .ref x3), (4, .int x4)] [] rfl (fun _ => rfl) rfl ?_
          refine dw_s (pc' := 38) [] rfl (fun _ => rfl) ?_
          exact dw_j rfl (fun lv1 hv => ih (x5 + (1 : Int32)) m lv1 (hv.1 _ rfl) (hv.2.1 _ rfl) (hv.2.2.1 _ rfl) (hv.2.2.2.1 _ rfl) (hv.2.2.2.2.1 _ rfl) (hv.2.2.2.2.2.1 _ rfl))
        · refine dw_g rfl ?_
          refine dg_s (pc' := 104) [.ref x0] rfl (fun _ => rfl) rfl ?_
          refine dg_s (pc' := 105) [.ref x1, .ref x0] rfl (fun _ => rfl) rfl ?_
          refine dg_s (pc' := 107) [.int ((((m.1 (x3 + 4) (Int32.toNatClampNeg x4)) &&& ((m.1 (x3 + 4) (Int32.toNatClampNeg (d_X7_behind x3 x4 x5 m))) ^^^ (-1 : Int32))) &&& x2) &&& (((1 : Int32) <<< ((m.1 (x1 + 3) (Int32.toNatClampNeg x5)) &&& 31)) ^^^ (-1 : Int32))), .ref x1, .ref x0] rfl (fun _ => rfl) rfl ?_
          refine dg_s (pc' := 108) [.ref x3, .int ((((m.1 (x3 + 4) (Int32.toNatClampNeg x4)) &&& ((m.1 (x3 + 4) (Int32.toNatClampNeg (d_X7_behind x3 x4 x5 m))) ^^^ (-1 : Int32))) &&& x2) &&& (((1 : Int32) <<< ((m.1 (x1 + 3) (Int32.toNatClampNeg x5)) &&& 31)) ^^^ (-1 : Int32))), .ref x1, .ref x0] rfl (fun _ => rfl) rfl ?_
          refine dg_s (pc' := 111) [.ref (x3 + 2), .int ((((m.1 (x3 + 4) (Int32.toNatClampNeg x4)) &&& ((m.1 (x3 + 4) (Int32.toNatClampNeg (d_X7_behind x3 x4 x5 m))) ^^^ (-1 : Int32))) &&& x2) &&& (((1 : Int32) <<< ((m.1 (x1 + 3) (Int32.toNatClampNeg x5)) &&& 31)) ^^^ (-1 : Int32))), .ref x1, .ref x0] rfl (fun _ => rfl) rfl ?_
          refine dg_s (pc' := 113) [.int x4, .ref (x3 + 2), .int ((((m.1 (x3 + 4) (Int32.toNatClampNeg x4)) &&& ((m.1 (x3 + 4) (Int32.toNatClampNeg (d_X7_behind x3 x4 x5 m))) ^^^ (-1 : Int32))) &&& x2) &&& (((1 : Int32) <<< ((m.1 (x1 + 3) (Int32.toNatClampNeg x5)) &&& 31)) ^^^ (-1 : Int32))), .ref x1, .ref x0] rfl (fun _ => rfl) rfl ?_
          refine dg_s (pc' := 114) [.int (m.1 (x3 + 2) (Int32.toNatClampNeg x4)), .int ((((m.1 (x3 + 4) (Int32.toNatClampNeg x4)) &&& ((m.1 (x3 + 4) (Int32.toNatClampNeg (d_X7_behind x3 x4 x5 m))) ^^^ (-1 : Int32))) &&& x2) &&& (((1 : Int32) <<< ((m.1 (x1 + 3) (Int32.toNatClampNeg x5)) &&& 31)) ^^^ (-1 : Int32))), .ref x1, .ref x0] rfl (fun _ => rfl) rfl ?_
          refine dg_s (pc' := 116) [.int x4, .int (m.1 (x3 + 2) (Int32.toNatClampNeg x4)), .int ((((m.1 (x3 + 4) (Int32.toNatClampNeg x4)) &&& ((m.1 (x3 + 4) (Int32.toNatClampNeg (d_X7_behind x3 x4 x5 m))) ^^^ (-1 : Int32))) &&& x2) &&& (((1 : Int32) <<< ((m.1 (x1 + 3) (Int32.toNatClampNeg x5)) &&& 31)) ^^^ (-1 : Int32))), .ref x1, .ref x0] rfl (fun _ => rfl) rfl ?_
          refine dg_s (pc' := 118) [.int x5, .int x4, .int (m.1 (x3 + 2) (Int32.toNatClampNeg x4)), .int ((((m.1 (x3 + 4) (Int32.toNatClampNeg x4)) &&& ((m.1 (x3 + 4) (Int32.toNatClampNeg (d_X7_behind x3 x4 x5 m))) ^^^ (-1 : Int32))) &&& x2) &&& (((1 : Int32) <<< ((m.1 (x1 + 3) (Int32.toNatClampNeg x5)) &&& 31)) ^^^ (-1 : Int32))), .ref x1, .ref x0] rfl (fun _ => rfl) rfl ?_
          refine dw_b (fun t => Φ (Option.bind t (dc_bk (d_X0_findTakenBack_l38s x0 x1 x2 x3 x4)))) (pc' := 121) (fun q1 => []) (fun q1 => q1) rfl (fun _ => rfl) (fun q1 => ?_)
          refine dw_g rfl ?_
          refine dg_L (pc' := 124) [(5, .int (x5 + (1 : Int32))), (7, .int ((((m.1 (x3 + 4) (Int32.toNatClampNeg x4)) &&& ((m.1 (x3 + 4) (Int32.toNatClampNeg (d_X7_behind x3 x4 x5 m))) ^^^ (-1 : Int32))) &&& x2) &&& (((1 : Int32) <<< ((m.1 (x1 + 3) (Int32.toNatClampNeg x5)) &&& 31)) ^^^ (-1 : Int32)))), (6, .int (d_X7_behind x3 x4 x5 m)), (0, .ref x0), (1, .ref x1), (2, .int x2), (3, .ref x3), (4, .int x4)] [] rfl (fun _ => rfl) rfl ?_
          refine dw_s (pc' := 38) [] rfl (fun _ => rfl) ?_
          exact dw_j rfl (fun lv1 hv => ih (x5 + (1 : Int32)) q1 lv1 (hv.1 _ rfl) (hv.2.1 _ rfl) (hv.2.2.1 _ rfl) (hv.2.2.2.1 _ rfl) (hv.2.2.2.2.1 _ rfl) (hv.2.2.2.2.2.1 _ rfl))
      · refine dw_g rfl ?_
        refine dg_s (pc' := 121) [] rfl (fun _ => rfl) rfl ?_
        refine dg_L (pc' := 124) [(5, .int (x5 + (1 : Int32))), (6, .int (d_X7_behind x3 x4 x5 m)), (0, .ref x0), (1, .ref x1), (2, .int x2), (3, .ref x3), (4, .int x4)] [] rfl (fun _ => rfl) rfl ?_
        refine dw_s (pc' := 38) [] rfl (fun _ => rfl) ?_
        exact dw_j rfl (fun lv1 hv => ih (x5 + (1 : Int32)) m lv1 (hv.1 _ rfl) (hv.2.1 _ rfl) (hv.2.2.1 _ rfl) (hv.2.2.2.1 _ rfl) (hv.2.2.2.2.1 _ rfl) (hv.2.2.2.2.2.1 _ rfl))
noncomputable def d_X0_findTakenBack_l26b (x0 : Nat) (x1 : Nat) (x2 : Int32) (x3 : Nat) (x4 : Int32) (m : dc_M) : Option ((Int32 × dc_M) ⊕ dc_M) :=
  (if (Int32.toInt (m.1 x3 0)) ≤ (Int32.toInt x4) then some (Sum.inr (m)) else (d_X0_findTakenBack_l38 x0 x1 x2 x3 x4 (0 : Int32) m))
noncomputable def d_X0_findTakenBack_l26s (x0 : Nat) (x1 : Nat) (x2 : Int32) (x3 : Nat) : (Int32 × dc_M) → Option ((Int32 × dc_M) ⊕ dc_M) := fun s => d_X0_findTakenBack_l26b x0 x1 x2 x3 s.1 s.2
noncomputable def d_X0_findTakenBack_l26 (x0 : Nat) (x1 : Nat) (x2 : Int32) (x3 : Nat) (x4 : Int32) (m : dc_M) : Option dc_M := dc_lp (d_X0_findTakenBack_l26s x0 x1 x2 x3) (x4, m)
set_option maxHeartbeats 8000000 in
theorem k_X0_findTakenBack_l26 {u : Nat} {Φ : (Option dc_M) → Option Value → dc_M → Prop} (x0 : Nat) (x1 : Nat) (x2 : Int32) (x3 : Nat) (kR : ∀  (m : dc_M), Φ (some (m)) (none) m) : ∀ (N : Nat), ∀ (x4 : Int32) (m : dc_M) (lv : ab_L), ab_lk lv 0 = some (.ref x0) → ab_lk lv 1 = some (.ref x1) → ab_lk lv 2 = some (.int x2) → ab_lk lv 3 = some (.ref x3) → ab_lk lv 4 = some (.int x4) → dc_pv u N ab_M_X0_findTakenBack 26 lv [] m (Φ (d_X0_findTakenBack_l26 x0 x1 x2 x3 x4 m)) := by
  intro N
  induction N with
  | zero => intros; exact dc_pv_zero
  | succ N ih =>
    intro x4 m lv f0 f1 f2 f3 f4
    refine dc_ok (C := C_X0_findTakenBack) (S := S_X0_findTakenBack) CO_X0_findTakenBack 400 26 [(0, .ref x0), (1, .ref x1), (2, .int x2), (3, .ref x3), (4, .int x4)] lv [] m (dc_sub_cons f0 (dc_sub_cons f1 (dc_sub_cons f2 (dc_sub_cons f3 (dc_sub_cons f4 (dc_sub_nil)))))) ?_
    unfold d_X0_findTakenBack_l26
    rw [dc_lp_eq]
    show (fun t x => dc_lf u N ab_M_X0_findTakenBack (Φ (Option.bind t (dc_bk (d_X0_findTakenBack_l26s x0 x1 x2 x3)))) x) (d_X0_findTakenBack_l26b x0 x1 x2 x3 x4 m) _
    dsimp only
    unfold d_X0_findTakenBack_l26b
    refine dg_s (pc' := 28) [.int x4] rfl (fun _ => rfl) rfl ?_
    refine dg_s (pc' := 29) [.ref x3, .int x4] rfl (fun _ => rfl) rfl ?_
    refine dg_s (pc' := 32) [.int (m.1 x3 0), .int x4] rfl (fun _ => rfl) rfl ?_
    refine dw_if (fun t => Φ (Option.bind t (dc_bk (d_X0_findTakenBack_l26s x0 x1 x2 x3)))) ((Int32.toInt (m.1 x3 0)) ≤ (Int32.toInt x4)) [] 133 35 rfl (fun _ => rfl) (fun c0 => ?_) (fun c0 => ?_)
    · refine dw_g rfl ?_
      exact dw_r (some (.inl (none, m))) rfl (fun _ => rfl) (kR _)
    · refine dw_g rfl ?_
      refine dg_s (pc' := 36) [.int (0 : Int32)] rfl (fun _ => rfl) rfl ?_
      refine dw_L (pc' := 38) [(5, .int (0 : Int32)), (0, .ref x0), (1, .ref x1), (2, .int x2), (3, .ref x3), (4, .int x4)] [] rfl (fun _ => rfl) ?_
      exact dw_j rfl (fun lv1 hv => k_X0_findTakenBack_l38 (Φ := (fun t => Φ (Option.bind t (dc_bk (d_X0_findTakenBack_l26s x0 x1 x2 x3))))) x0 x1 x2 x3 x4 (fun _b => kR _b) N ih (0 : Int32) m lv1 (hv.1 _ rfl) (hv.2.1 _ rfl) (hv.2.2.1 _ rfl) (hv.2.2.2.1 _ rfl) (hv.2.2.2.2.1 _ rfl) (hv.2.2.2.2.2.1 _ rfl))
noncomputable def d_X0_findTakenBack (x0 : Nat) (x1 : Nat) (x2 : Int32) (x3 : Nat) (m : dc_M) : Option dc_M :=
  (d_X0_findTakenBack_l26 x0 x1 x2 x3 (0 : Int32) (dc_wi (dc_wi (dc_wi (dc_wi m x0 4 (0 : Int32)) x0 5 (-4 : Int32)) x0 6 (-4 : Int32)) x0 7 (-4 : Int32)))
set_option maxHeartbeats 8000000 in
theorem k_X0_findTakenBack {u : Nat} {N : Nat} {Φ : (Option dc_M) → Option Value → dc_M → Prop} (x0 : Nat) (x1 : Nat) (x2 : Int32) (x3 : Nat) (m : dc_M) (kR : ∀  (m : dc_M), Φ (some (m)) (none) m)  {lv : ab_L} (f0 : ab_lk lv 0 = some (.ref x0)) (f1 : ab_lk lv 1 = some (.ref x1)) (f2 : ab_lk lv 2 = some (.int x2)) (f3 : ab_lk lv 3 = some (.ref x3)) : dc_pv u N ab_M_X0_findTakenBack 0 lv [] m (Φ (d_X0_findTakenBack x0 x1 x2 x3 m)) := by
  refine dc_pv.mono (dc_ok (C := C_X0_findTakenBack) (S := S_X0_findTakenBack) CO_X0_findTakenBack 400 0 [(0, .ref x0), (1, .ref x1), (2, .int x2), (3, .ref x3)] lv [] m (dc_sub_cons f0 (dc_sub_cons f1 (dc_sub_cons f2 (dc_sub_cons f3 (dc_sub_nil))))) ?_) (Nat.le_succ N)
  unfold d_X0_findTakenBack
  refine dg_s (pc' := 1) [.ref x0] rfl (fun _ => rfl) rfl ?_
  refine dg_s (pc' := 2) [.int (0 : Int32), .ref x0] rfl (fun _ => rfl) rfl ?_
  refine dg_m (pc' := 5) (dc_wi m x0 4 (0 : Int32)) [] rfl (fun _ => rfl) rfl ?_
  refine dg_s (pc' := 6) [.ref x0] rfl (fun _ => rfl) rfl ?_
  refine dg_s (pc' := 8) [.int (-4 : Int32), .ref x0] rfl (fun _ => rfl) rfl ?_
  refine dg_m (pc' := 11) (dc_wi (dc_wi m x0 4 (0 : Int32)) x0 5 (-4 : Int32)) [] rfl (fun _ => rfl) rfl ?_
  refine dg_s (pc' := 12) [.ref x0] rfl (fun _ => rfl) rfl ?_
  refine dg_s (pc' := 14) [.int (-4 : Int32), .ref x0] rfl (fun _ => rfl) rfl ?_
  refine dg_m (pc' := 17) (dc_wi (dc_wi (dc_wi m x0 4 (0 : Int32)) x0 5 (-4 : Int32)) x0 6 (-4 : Int32)) [] rfl (fun _ => rfl) rfl ?_
  refine dg_s (pc' := 18) [.ref x0] rfl (fun _ => rfl) rfl ?_
  refine dg_s (pc' := 20) [.int (-4 : Int32), .ref x0] rfl (fun _ => rfl) rfl ?_
  refine dg_m (pc' := 23) (dc_wi (dc_wi (dc_wi (dc_wi m x0 4 (0 : Int32)) x0 5 (-4 : Int32)) x0 6 (-4 : Int32)) x0 7 (-4 : Int32)) [] rfl (fun _ => rfl) rfl ?_
  refine dg_s (pc' := 24) [.int (0 : Int32)] rfl (fun _ => rfl) rfl ?_
  refine dw_L (pc' := 26) [(4, .int (0 : Int32)), (0, .ref x0), (1, .ref x1), (2, .int x2), (3, .ref x3)] [] rfl (fun _ => rfl) ?_
  exact dw_j rfl (fun lv1 hv => k_X0_findTakenBack_l26 (Φ := (fun t => Φ t)) x0 x1 x2 x3 (fun _b => kR _b) N  (0 : Int32) (dc_wi (dc_wi (dc_wi (dc_wi m x0 4 (0 : Int32)) x0 5 (-4 : Int32)) x0 6 (-4 : Int32)) x0 7 (-4 : Int32)) lv1 (hv.1 _ rfl) (hv.2.1 _ rfl) (hv.2.2.1 _ rfl) (hv.2.2.2.1 _ rfl) (hv.2.2.2.2.1 _ rfl))
noncomputable def H_X0_findTakenBack : dc_H := fun As m k => match As with
  | [.ref x0, .ref x1, .int x2, .ref x3] => (d_X0_findTakenBack x0 x1 x2 x3 m).bind (fun q => k (none) q)
  | _ => dc_kz
theorem H_X0_findTakenBack_ok {u : Nat} : dc_cok u 4 H_X0_findTakenBack := fun M' hG N As m k P hz hP => by
  obtain rfl : ab_M_X0_findTakenBack = M' := Option.some.inj hG
  unfold H_X0_findTakenBack at hP
  split at hP
  · rename_i x0 x1 x2 x3
    exact dc_pv.imp (k_X0_findTakenBack (Φ := fun (t : Option dc_M) r m' => P (t.bind (fun q => k (none) q)) → P (k r m')) x0 x1 x2 x3 m (fun _ h => h) rfl rfl rfl rfl) (fun r m' h => h hP)
  · exact absurd hP hz
def C_X3_madeWires : List (Nat × dc_H) := []
theorem CO_X3_madeWires {u : Nat} : dc_CO u C_X3_madeWires := dc_CO_nil
def S_X3_madeWires : List (Nat × List Nat) := [(4, [0, 1, 2])]
noncomputable def d_X3_madeWires_l4b (x0 : Nat) (x1 : Int32) (x2 : Int32) (m : dc_M) : Option ((Int32 × Int32) ⊕ Int32) :=
  (if (Int32.toInt (m.1 x0 0)) ≤ (Int32.toInt x2) then some (Sum.inr (x1)) else (if (Int32.toInt (m.1 (x0 + 2) (Int32.toNatClampNeg x2))) = 0 then some (Sum.inl (x1, (x2 + (1 : Int32)))) else some (Sum.inl ((x1 ||| ((1 : Int32) <<< (x2 &&& 31))), (x2 + (1 : Int32))))))
noncomputable def d_X3_madeWires_l4s (x0 : Nat) (m : dc_M) : (Int32 × Int32) → Option ((Int32 × Int32) ⊕ Int32) := fun s => d_X3_madeWires_l4b x0 s.1 s.2 m
noncomputable def d_X3_madeWires_l4 (x0 : Nat) (x1 : Int32) (x2 : Int32) (m : dc_M) : Option Int32 := dc_lp (d_X3_madeWires_l4s x0 m) (x1, x2)
set_option maxHeartbeats 8000000 in
theorem k_X3_madeWires_l4 {u : Nat} {Φ : (Option Int32) → Option Value → dc_M → Prop} (x0 : Nat) (m : dc_M) (kR : ∀ (v : Int32), Φ (some (v)) (some (.int v)) m) : ∀ (N : Nat), ∀ (x1 : Int32) (x2 : Int32) (lv : ab_L), ab_lk lv 0 = some (.ref x0) → ab_lk lv 1 = some (.int x1) → ab_lk lv 2 = some (.int x2) → dc_pv u N ab_M_X3_madeWires 4 lv [] m (Φ (d_X3_madeWires_l4 x0 x1 x2 m)) := by
  intro N
  induction N with
  | zero => intros; exact dc_pv_zero
  | succ N ih =>
    intro x1 x2 lv f0 f1 f2
    refine dc_ok (C := C_X3_madeWires) (S := S_X3_madeWires) CO_X3_madeWires 400 4 [(0, .ref x0), (1, .int x1), (2, .int x2)] lv [] m (dc_sub_cons f0 (dc_sub_cons f1 (dc_sub_cons f2 (dc_sub_nil)))) ?_
    unfold d_X3_madeWires_l4
    rw [dc_lp_eq]
    show (fun t x => dc_lf u N ab_M_X3_madeWires (Φ (Option.bind t (dc_bk (d_X3_madeWires_l4s x0 m)))) x) (d_X3_madeWires_l4b x0 x1 x2 m) _
    dsimp only
    unfold d_X3_madeWires_l4b
    refine dg_s (pc' := 5) [.int x2] rfl (fun _ => rfl) rfl ?_
    refine dg_s (pc' := 6) [.ref x0, .int x2] rfl (fun _ => rfl) rfl ?_
    refine dg_s (pc' := 9) [.int (m.1 x0 0), .int x2] rfl (fun _ => rfl) rfl ?_
    refine dw_if (fun t => Φ (Option.bind t (dc_bk (d_X3_madeWires_l4s x0 m)))) ((Int32.toInt (m.1 x0 0)) ≤ (Int32.toInt x2)) [] 33 12 rfl (fun _ => rfl) (fun c0 => ?_) (fun c0 => ?_)
    · refine dw_g rfl ?_
      refine dg_s (pc' := 34) [.int x1] rfl (fun _ => rfl) rfl ?_
      exact dw_r (some (.inl (some (.int x1), m))) rfl (fun _ => rfl) (kR _)
    · refine dw_g rfl ?_
      refine dg_s (pc' := 13) [.ref x0] rfl (fun _ => rfl) rfl ?_
      refine dg_s (pc' := 16) [.ref (x0 + 2)] rfl (fun _ => rfl) rfl ?_
      refine dg_s (pc' := 17) [.int x2, .ref (x0 + 2)] rfl (fun _ => rfl) rfl ?_
      refine dg_s (pc' := 18) [.int (m.1 (x0 + 2) (Int32.toNatClampNeg x2))] rfl (fun _ => rfl) rfl ?_
      refine dw_if (fun t => Φ (Option.bind t (dc_bk (d_X3_madeWires_l4s x0 m)))) ((Int32.toInt (m.1 (x0 + 2) (Int32.toNatClampNeg x2))) = 0) [] 27 21 rfl (fun _ => rfl) (fun c1 => ?_) (fun c1 => ?_)
      · refine dw_g rfl ?_
        refine dg_L (pc' := 30) [(2, .int (x2 + (1 : Int32))), (0, .ref x0), (1, .int x1)] [] rfl (fun _ => rfl) rfl ?_
        refine dw_s (pc' := 4) [] rfl (fun _ => rfl) ?_
        exact dw_j rfl (fun lv1 hv => ih x1 (x2 + (1 : Int32)) lv1 (hv.1 _ rfl) (hv.2.1 _ rfl) (hv.2.2.1 _ rfl))
      · refine dw_g rfl ?_
        refine dg_s (pc' := 22) [.int x1] rfl (fun _ => rfl) rfl ?_
        refine dg_s (pc' := 23) [.int (1 : Int32), .int x1] rfl (fun _ => rfl) rfl ?_
        refine dg_s (pc' := 24) [.int x2, .int (1 : Int32), .int x1] rfl (fun _ => rfl) rfl ?_
        refine dg_s (pc' := 25) [.int ((1 : Int32) <<< (x2 &&& 31)), .int x1] rfl (fun _ => rfl) rfl ?_
        refine dg_s (pc' := 26) [.int (x1 ||| ((1 : Int32) <<< (x2 &&& 31)))] rfl (fun _ => rfl) rfl ?_
        refine dg_L (pc' := 27) [(1, .int (x1 ||| ((1 : Int32) <<< (x2 &&& 31)))), (0, .ref x0), (2, .int x2)] [] rfl (fun _ => rfl) rfl ?_
        refine dg_L (pc' := 30) [(2, .int (x2 + (1 : Int32))), (1, .int (x1 ||| ((1 : Int32) <<< (x2 &&& 31)))), (0, .ref x0)] [] rfl (fun _ => rfl) rfl ?_
        refine dw_s (pc' := 4) [] rfl (fun _ => rfl) ?_
        exact dw_j rfl (fun lv1 hv => ih (x1 ||| ((1 : Int32) <<< (x2 &&& 31))) (x2 + (1 : Int32)) lv1 (hv.1 _ rfl) (hv.2.1 _ rfl) (hv.2.2.1 _ rfl))
noncomputable def d_X3_madeWires (x0 : Nat) (m : dc_M) : Option Int32 :=
  (d_X3_madeWires_l4 x0 (0 : Int32) (0 : Int32) m)
set_option maxHeartbeats 8000000 in
theorem k_X3_madeWires {u : Nat} {N : Nat} {Φ : (Option Int32) → Option Value → dc_M → Prop} (x0 : Nat) (m : dc_M) (kR : ∀ (v : Int32), Φ (some (v)) (some (.int v)) m)  {lv : ab_L} (f0 : ab_lk lv 0 = some (.ref x0)) : dc_pv u N ab_M_X3_madeWires 0 lv [] m (Φ (d_X3_madeWires x0 m)) := by
  refine dc_pv.mono (dc_ok (C := C_X3_madeWires) (S := S_X3_madeWires) CO_X3_madeWires 400 0 [(0, .ref x0)] lv [] m (dc_sub_cons f0 (dc_sub_nil)) ?_) (Nat.le_succ N)
  unfold d_X3_madeWires
  refine dg_s (pc' := 1) [.int (0 : Int32)] rfl (fun _ => rfl) rfl ?_
  refine dg_L (pc' := 2) [(1, .int (0 : Int32)), (0, .ref x0)] [] rfl (fun _ => rfl) rfl ?_
  refine dg_s (pc' := 3) [.int (0 : Int32)] rfl (fun _ => rfl) rfl ?_
  refine dw_L (pc' := 4) [(2, .int (0 : Int32)), (1, .int (0 : Int32)), (0, .ref x0)] [] rfl (fun _ => rfl) ?_
  exact dw_j rfl (fun lv1 hv => k_X3_madeWires_l4 (Φ := (fun t => Φ t)) x0 m (fun _a  => kR _a) N  (0 : Int32) (0 : Int32) lv1 (hv.1 _ rfl) (hv.2.1 _ rfl) (hv.2.2.1 _ rfl))
noncomputable def H_X3_madeWires : dc_H := fun As m k => match As with
  | [.ref x0] => (d_X3_madeWires x0 m).bind (fun q => k (some (.int q)) m)
  | _ => dc_kz
theorem H_X3_madeWires_ok {u : Nat} : dc_cok u 29 H_X3_madeWires := fun M' hG N As m k P hz hP => by
  obtain rfl : ab_M_X3_madeWires = M' := Option.some.inj hG
  unfold H_X3_madeWires at hP
  split at hP
  · rename_i x0
    exact dc_pv.imp (k_X3_madeWires (Φ := fun (t : Option Int32) r m' => P (t.bind (fun q => k (some (.int q)) m)) → P (k r m')) x0 m (fun _  h => h) rfl) (fun r m' h => h hP)
  · exact absurd hP hz
noncomputable def C_X0_find : List (Nat × dc_H) := [(2, H_X0_findQuarrels), (4, H_X0_findTakenBack), (29, H_X3_madeWires)]
theorem CO_X0_find {u : Nat} : dc_CO u C_X0_find := dc_CO_cons H_X0_findQuarrels_ok (dc_CO_cons H_X0_findTakenBack_ok (dc_CO_cons H_X3_madeWires_ok (dc_CO_nil)))
def S_X0_find : List (Nat × List Nat) := []
noncomputable def d_X0_find (x0 : Nat) (x1 : Nat) (x2 : Nat) (m : dc_M) : Option dc_M :=
  ((d_X3_madeWires x1 m).bind (fun q1 => ((d_X0_findQuarrels x0 q1 x2 m).bind (fun q2 => ((d_X0_findTakenBack x0 x1 q1 x2 q2).bind (fun q3 => some (q3)))))))
set_option maxHeartbeats 8000000 in
theorem k_X0_find {u : Nat} {N : Nat} {Φ : (Option dc_M) → Option Value → dc_M → Prop} (x0 : Nat) (x1 : Nat) (x2 : Nat) (m : dc_M) (kR : ∀  (m : dc_M), Φ (some (m)) (none) m)  {lv : ab_L} (f0 : ab_lk lv 0 = some (.ref x0)) (f1 : ab_lk lv 1 = some (.ref x1)) (f2 : ab_lk lv 2 = some (.ref x2)) : dc_pv u N ab_M_X0_find 0 lv [] m (Φ (d_X0_find x0 x1 x2 m)) := by
  refine dc_pv.mono (dc_ok (C := C_X0_find) (S := S_X0_find) CO_X0_find 400 0 [(0, .ref x0), (1, .ref x1), (2, .ref x2)] lv [] m (dc_sub_cons f0 (dc_sub_cons f1 (dc_sub_cons f2 (dc_sub_nil)))) ?_) (Nat.le_succ N)
  unfold d_X0_find
  refine dg_s (pc' := 1) [.ref x1] rfl (fun _ => rfl) rfl ?_
  refine dw_b (fun t => Φ t) (pc' := 4) (fun q1 => [.int q1]) (fun q1 => m) rfl (fun _ => rfl) (fun q1 => ?_)
  refine dw_g rfl ?_
  refine dg_L (pc' := 5) [(3, .int q1), (0, .ref x0), (1, .ref x1), (2, .ref x2)] [] rfl (fun _ => rfl) rfl ?_
  refine dg_s (pc' := 6) [.ref x0] rfl (fun _ => rfl) rfl ?_
  refine dg_s (pc' := 7) [.int q1, .ref x0] rfl (fun _ => rfl) rfl ?_
  refine dg_s (pc' := 8) [.ref x2, .int q1, .ref x0] rfl (fun _ => rfl) rfl ?_
  refine dw_b (fun t => Φ t) (pc' := 11) (fun q2 => []) (fun q2 => q2) rfl (fun _ => rfl) (fun q2 => ?_)
  refine dw_g rfl ?_
  refine dg_s (pc' := 12) [.ref x0] rfl (fun _ => rfl) rfl ?_
  refine dg_s (pc' := 13) [.ref x1, .ref x0] rfl (fun _ => rfl) rfl ?_
  refine dg_s (pc' := 14) [.int q1, .ref x1, .ref x0] rfl (fun _ => rfl) rfl ?_
  refine dg_s (pc' := 15) [.ref x2, .int q1, .ref x1, .ref x0] rfl (fun _ => rfl) rfl ?_
  refine dw_b (fun t => Φ t) (pc' := 18) (fun q3 => []) (fun q3 => q3) rfl (fun _ => rfl) (fun q3 => ?_)
  refine dw_g rfl ?_
  exact dw_r (some (.inl (none, q3))) rfl (fun _ => rfl) (kR _)
noncomputable def H_X0_find : dc_H := fun As m k => match As with
  | [.ref x0, .ref x1, .ref x2] => (d_X0_find x0 x1 x2 m).bind (fun q => k (none) q)
  | _ => dc_kz
theorem H_X0_find_ok {u : Nat} : dc_cok u 1 H_X0_find := fun M' hG N As m k P hz hP => by
  obtain rfl : ab_M_X0_find = M' := Option.some.inj hG
  unfold H_X0_find at hP
  split at hP
  · rename_i x0 x1 x2
    exact dc_pv.imp (k_X0_find (Φ := fun (t : Option dc_M) r m' => P (t.bind (fun q => k (none) q)) → P (k r m')) x0 x1 x2 m (fun _ h => h) rfl rfl rfl) (fun r m' h => h hP)
  · exact absurd hP hz
noncomputable def C_X9_findClashes : List (Nat × dc_H) := [(1, H_X0_find)]
theorem CO_X9_findClashes {u : Nat} : dc_CO u C_X9_findClashes := dc_CO_cons H_X0_find_ok (dc_CO_nil)
def S_X9_findClashes : List (Nat × List Nat) := []
noncomputable def d_X9_findClashes (x0 : Nat) (m : dc_M) : Option dc_M :=
  (if ¬ (Int32.toInt (m.1 x0 12)) = 0 then some (m) else ((d_X0_find (x0 + 11) (m.2.2.1 x0 7) (x0 + 3) m).bind (fun q1 => some ((dc_wi q1 x0 12 (1 : Int32))))))
set_option maxHeartbeats 8000000 in
theorem k_X9_findClashes {u : Nat} {N : Nat} {Φ : (Option dc_M) → Option Value → dc_M → Prop} (x0 : Nat) (m : dc_M) (kR : ∀  (m : dc_M), Φ (some (m)) (none) m)  {lv : ab_L} (f0 : ab_lk lv 0 = some (.ref x0)) : dc_pv u N ab_M_X9_findClashes 0 lv [] m (Φ (d_X9_findClashes x0 m)) := by
  refine dc_pv.mono (dc_ok (C := C_X9_findClashes) (S := S_X9_findClashes) CO_X9_findClashes 400 0 [(0, .ref x0)] lv [] m (dc_sub_cons f0 (dc_sub_nil)) ?_) (Nat.le_succ N)
  unfold d_X9_findClashes
  refine dg_s (pc' := 1) [.ref x0] rfl (fun _ => rfl) rfl ?_
  refine dg_s (pc' := 4) [.int (m.1 x0 12)] rfl (fun _ => rfl) rfl ?_
  refine dw_if (fun t => Φ t) (¬ (Int32.toInt (m.1 x0 12)) = 0) [] 27 7 rfl (fun _ => rfl) (fun c0 => ?_) (fun c0 => ?_)
  · refine dw_g rfl ?_
    exact dw_r (some (.inl (none, m))) rfl (fun _ => rfl) (kR _)
  · refine dw_g rfl ?_
    refine dg_s (pc' := 8) [.ref x0] rfl (fun _ => rfl) rfl ?_
    refine dg_s (pc' := 11) [.ref (x0 + 11)] rfl (fun _ => rfl) rfl ?_
    refine dg_s (pc' := 12) [.ref x0, .ref (x0 + 11)] rfl (fun _ => rfl) rfl ?_
    refine dg_s (pc' := 15) [.ref (m.2.2.1 x0 7), .ref (x0 + 11)] rfl (fun _ => rfl) rfl ?_
    refine dg_s (pc' := 16) [.ref x0, .ref (m.2.2.1 x0 7), .ref (x0 + 11)] rfl (fun _ => rfl) rfl ?_
    refine dg_s (pc' := 19) [.ref (x0 + 3), .ref (m.2.2.1 x0 7), .ref (x0 + 11)] rfl (fun _ => rfl) rfl ?_
    refine dw_b (fun t => Φ t) (pc' := 22) (fun q1 => []) (fun q1 => q1) rfl (fun _ => rfl) (fun q1 => ?_)
    refine dw_g rfl ?_
    refine dg_s (pc' := 23) [.ref x0] rfl (fun _ => rfl) rfl ?_
    refine dg_s (pc' := 24) [.int (1 : Int32), .ref x0] rfl (fun _ => rfl) rfl ?_
    refine dg_m (pc' := 27) (dc_wi q1 x0 12 (1 : Int32)) [] rfl (fun _ => rfl) rfl ?_
    exact dw_r (some (.inl (none, (dc_wi q1 x0 12 (1 : Int32))))) rfl (fun _ => rfl) (kR _)
noncomputable def H_X9_findClashes : dc_H := fun As m k => match As with
  | [.ref x0] => (d_X9_findClashes x0 m).bind (fun q => k (none) q)
  | _ => dc_kz
theorem H_X9_findClashes_ok {u : Nat} : dc_cok u 136 H_X9_findClashes := fun M' hG N As m k P hz hP => by
  obtain rfl : ab_M_X9_findClashes = M' := Option.some.inj hG
  unfold H_X9_findClashes at hP
  split at hP
  · rename_i x0
    exact dc_pv.imp (k_X9_findClashes (Φ := fun (t : Option dc_M) r m' => P (t.bind (fun q => k (none) q)) → P (k r m')) x0 m (fun _ h => h) rfl) (fun r m' h => h hP)
  · exact absurd hP hz
noncomputable def C_X9_quarrels : List (Nat × dc_H) := [(136, H_X9_findClashes), (135, H_X9_isRight)]
theorem CO_X9_quarrels {u : Nat} : dc_CO u C_X9_quarrels := dc_CO_cons H_X9_findClashes_ok (dc_CO_cons H_X9_isRight_ok (dc_CO_nil))
def S_X9_quarrels : List (Nat × List Nat) := []
noncomputable def d_X9_quarrels (x0 : Nat) (x1 : Int32) (m : dc_M) : Option (Int32 × dc_M) :=
  (if (Int32.toInt x1) < 0 then some (((-1 : Int32), m)) else (if (Int32.toInt x1) ≤ 3 then ((d_X9_isRight x0 m).bind (fun q1 => (if ¬ (Int32.toInt q1.1) = 0 then ((d_X9_findClashes x0 q1.2).bind (fun q2 => (if (Int32.toInt x1) = 0 then some (((q2.1 (x0 + 11) 0), q2)) else (if (Int32.toInt x1) = 1 then some (((q2.1 (x0 + 11) 1), q2)) else (if (Int32.toInt x1) = 2 then some (((q2.1 (x0 + 11) 2), q2)) else some (((q2.1 (x0 + 11) 3), q2))))))) else some (((-2 : Int32), q1.2))))) else some (((-1 : Int32), m))))
set_option maxHeartbeats 8000000 in
theorem k_X9_quarrels {u : Nat} {N : Nat} {Φ : (Option (Int32 × dc_M)) → Option Value → dc_M → Prop} (x0 : Nat) (x1 : Int32) (m : dc_M) (kR : ∀ (v : Int32) (m : dc_M), Φ (some ((v, m))) (some (.int v)) m)  {lv : ab_L} (f0 : ab_lk lv 0 = some (.ref x0)) (f1 : ab_lk lv 1 = some (.int x1)) : dc_pv u N ab_M_X9_quarrels 0 lv [] m (Φ (d_X9_quarrels x0 x1 m)) := by
  refine dc_pv.mono (dc_ok (C := C_X9_quarrels) (S := S_X9_quarrels) CO_X9_quarrels 400 0 [(0, .ref x0), (1, .int x1)] lv [] m (dc_sub_cons f0 (dc_sub_cons f1 (dc_sub_nil))) ?_) (Nat.le_succ N)
  unfold d_X9_quarrels
  refine dg_s (pc' := 1) [.int x1] rfl (fun _ => rfl) rfl ?_
  refine dw_if (fun t => Φ t) ((Int32.toInt x1) < 0) [] 9 4 rfl (fun _ => rfl) (fun c0 => ?_) (fun c0 => ?_)
  · refine dw_g rfl ?_
    refine dg_s (pc' := 10) [.int (-1 : Int32)] rfl (fun _ => rfl) rfl ?_
    exact dw_r (some (.inl (some (.int (-1 : Int32)), m))) rfl (fun _ => rfl) (kR _ _)
  · refine dw_g rfl ?_
    refine dg_s (pc' := 5) [.int x1] rfl (fun _ => rfl) rfl ?_
    refine dg_s (pc' := 6) [.int (3 : Int32), .int x1] rfl (fun _ => rfl) rfl ?_
    refine dw_if (fun t => Φ t) ((Int32.toInt x1) ≤ 3) [] 11 9 rfl (fun _ => rfl) (fun c1 => ?_) (fun c1 => ?_)
    · refine dw_g rfl ?_
      refine dg_s (pc' := 12) [.ref x0] rfl (fun _ => rfl) rfl ?_
      refine dw_b (fun t => Φ t) (pc' := 15) (fun q1 => [.int q1.1]) (fun q1 => q1.2) rfl (fun _ => rfl) (fun q1 => ?_)
      refine dw_g rfl ?_
      refine dw_if (fun t => Φ t) (¬ (Int32.toInt q1.1) = 0) [] 21 18 rfl (fun _ => rfl) (fun c2 => ?_) (fun c2 => ?_)
      · refine dw_g rfl ?_
        refine dg_s (pc' := 22) [.ref x0] rfl (fun _ => rfl) rfl ?_
        refine dw_b (fun t => Φ t) (pc' := 25) (fun q2 => []) (fun q2 => q2) rfl (fun _ => rfl) (fun q2 => ?_)
        refine dw_g rfl ?_
        refine dg_s (pc' := 26) [.int x1] rfl (fun _ => rfl) rfl ?_
        refine dw_sw (fun t => Φ t) ((Int32.toInt x1)) 76 [(0, 52), (1, 60), (2, 68)] [] rfl (fun _ => rfl) ?_
        refine dw_ts (fun t => Φ t) (fun c3 => ?_) (fun c3 => ?_)
        · refine dw_g rfl ?_
          refine dg_s (pc' := 53) [.ref x0] rfl (fun _ => rfl) rfl ?_
          refine dg_s (pc' := 56) [.ref (x0 + 11)] rfl (fun _ => rfl) rfl ?_
          refine dg_s (pc' := 59) [.int (q2.1 (x0 + 11) 0)] rfl (fun _ => rfl) rfl ?_
          exact dw_r (some (.inl (some (.int (q2.1 (x0 + 11) 0)), q2))) rfl (fun _ => rfl) (kR _ _)
        refine dw_ts (fun t => Φ t) (fun c4 => ?_) (fun c4 => ?_)
        · refine dw_g rfl ?_
          refine dg_s (pc' := 61) [.ref x0] rfl (fun _ => rfl) rfl ?_
          refine dg_s (pc' := 64) [.ref (x0 + 11)] rfl (fun _ => rfl) rfl ?_
          refine dg_s (pc' := 67) [.int (q2.1 (x0 + 11) 1)] rfl (fun _ => rfl) rfl ?_
          exact dw_r (some (.inl (some (.int (q2.1 (x0 + 11) 1)), q2))) rfl (fun _ => rfl) (kR _ _)
        refine dw_ts (fun t => Φ t) (fun c5 => ?_) (fun c5 => ?_)
        · refine dw_g rfl ?_
          refine dg_s (pc' := 69) [.ref x0] rfl (fun _ => rfl) rfl ?_
          refine dg_s (pc' := 72) [.ref (x0 + 11)] rfl (fun _ => rfl) rfl ?_
          refine dg_s (pc' := 75) [.int (q2.1 (x0 + 11) 2)] rfl (fun _ => rfl) rfl ?_
          exact dw_r (some (.inl (some (.int (q2.1 (x0 + 11) 2)), q2))) rfl (fun _ => rfl) (kR _ _)
        refine dw_t0 ?_
        refine dw_g rfl ?_
        refine dg_s (pc' := 77) [.ref x0] rfl (fun _ => rfl) rfl ?_
        refine dg_s (pc' := 80) [.ref (x0 + 11)] rfl (fun _ => rfl) rfl ?_
        refine dg_s (pc' := 83) [.int (q2.1 (x0 + 11) 3)] rfl (fun _ => rfl) rfl ?_
        exact dw_r (some (.inl (some (.int (q2.1 (x0 + 11) 3)), q2))) rfl (fun _ => rfl) (kR _ _)
      · refine dw_g rfl ?_
        refine dg_s (pc' := 20) [.int (-2 : Int32)] rfl (fun _ => rfl) rfl ?_
        exact dw_r (some (.inl (some (.int (-2 : Int32)), q1.2))) rfl (fun _ => rfl) (kR _ _)
    · refine dw_g rfl ?_
      refine dg_s (pc' := 10) [.int (-1 : Int32)] rfl (fun _ => rfl) rfl ?_
      exact dw_r (some (.inl (some (.int (-1 : Int32)), m))) rfl (fun _ => rfl) (kR _ _)
noncomputable def H_X9_quarrels : dc_H := fun As m k => match As with
  | [.ref x0, .int x1] => (d_X9_quarrels x0 x1 m).bind (fun q => k (some (.int q.1)) q.2)
  | _ => dc_kz
theorem H_X9_quarrels_ok {u : Nat} : dc_cok u 111 H_X9_quarrels := fun M' hG N As m k P hz hP => by
  obtain rfl : ab_M_X9_quarrels = M' := Option.some.inj hG
  unfold H_X9_quarrels at hP
  split at hP
  · rename_i x0 x1
    exact dc_pv.imp (k_X9_quarrels (Φ := fun (t : Option (Int32 × dc_M)) r m' => P (t.bind (fun q => k (some (.int q.1)) q.2)) → P (k r m')) x0 x1 m (fun _ _ h => h) rfl rfl) (fun r m' h => h hP)
  · exact absurd hP hz
def C_X10_ownWires : List (Nat × dc_H) := []
theorem CO_X10_ownWires {u : Nat} : dc_CO u C_X10_ownWires := dc_CO_nil
def S_X10_ownWires : List (Nat × List Nat) := [(4, [0, 1, 2])]
noncomputable def d_X10_ownWires_l4b (x0 : Nat) (x1 : Int32) (x2 : Int32) (m : dc_M) : Option ((Int32 × Int32) ⊕ Int32) :=
  (if (Int32.toInt (m.1 x0 0)) ≤ (Int32.toInt x2) then some (Sum.inr (x1)) else (if (Int32.toInt (m.1 (x0 + 2) (Int32.toNatClampNeg x2))) ≤ 0 then some (Sum.inl ((x1 ||| (0 : Int32)), (x2 + (1 : Int32)))) else some (Sum.inl ((x1 ||| ((1 : Int32) <<< (x2 &&& 31))), (x2 + (1 : Int32))))))
noncomputable def d_X10_ownWires_l4s (x0 : Nat) (m : dc_M) : (Int32 × Int32) → Option ((Int32 × Int32) ⊕ Int32) := fun s => d_X10_ownWires_l4b x0 s.1 s.2 m
noncomputable def d_X10_ownWires_l4 (x0 : Nat) (x1 : Int32) (x2 : Int32) (m : dc_M) : Option Int32 := dc_lp (d_X10_ownWires_l4s x0 m) (x1, x2)
set_option maxHeartbeats 8000000 in
theorem k_X10_ownWires_l4 {u : Nat} {Φ : (Option Int32) → Option Value → dc_M → Prop} (x0 : Nat) (m : dc_M) (kR : ∀ (v : Int32), Φ (some (v)) (some (.int v)) m) : ∀ (N : Nat), ∀ (x1 : Int32) (x2 : Int32) (lv : ab_L), ab_lk lv 0 = some (.ref x0) → ab_lk lv 1 = some (.int x1) → ab_lk lv 2 = some (.int x2) → dc_pv u N ab_M_X10_ownWires 4 lv [] m (Φ (d_X10_ownWires_l4 x0 x1 x2 m)) := by
  intro N
  induction N with
  | zero => intros; exact dc_pv_zero
  | succ N ih =>
    intro x1 x2 lv f0 f1 f2
    refine dc_ok (C := C_X10_ownWires) (S := S_X10_ownWires) CO_X10_ownWires 400 4 [(0, .ref x0), (1, .int x1), (2, .int x2)] lv [] m (dc_sub_cons f0 (dc_sub_cons f1 (dc_sub_cons f2 (dc_sub_nil)))) ?_
    unfold d_X10_ownWires_l4
    rw [dc_lp_eq]
    show (fun t x => dc_lf u N ab_M_X10_ownWires (Φ (Option.bind t (dc_bk (d_X10_ownWires_l4s x0 m)))) x) (d_X10_ownWires_l4b x0 x1 x2 m) _
    dsimp only
    unfold d_X10_ownWires_l4b
    refine dg_s (pc' := 5) [.int x2] rfl (fun _ => rfl) rfl ?_
    refine dg_s (pc' := 6) [.ref x0, .int x2] rfl (fun _ => rfl) rfl ?_
    refine dg_s (pc' := 9) [.int (m.1 x0 0), .int x2] rfl (fun _ => rfl) rfl ?_
    refine dw_if (fun t => Φ (Option.bind t (dc_bk (d_X10_ownWires_l4s x0 m)))) ((Int32.toInt (m.1 x0 0)) ≤ (Int32.toInt x2)) [] 37 12 rfl (fun _ => rfl) (fun c0 => ?_) (fun c0 => ?_)
    · refine dw_g rfl ?_
      refine dg_s (pc' := 38) [.int x1] rfl (fun _ => rfl) rfl ?_
      exact dw_r (some (.inl (some (.int x1), m))) rfl (fun _ => rfl) (kR _)
    · refine dw_g rfl ?_
      refine dg_s (pc' := 13) [.int x1] rfl (fun _ => rfl) rfl ?_
      refine dg_s (pc' := 14) [.ref x0, .int x1] rfl (fun _ => rfl) rfl ?_
      refine dg_s (pc' := 17) [.ref (x0 + 2), .int x1] rfl (fun _ => rfl) rfl ?_
      refine dg_s (pc' := 18) [.int x2, .ref (x0 + 2), .int x1] rfl (fun _ => rfl) rfl ?_
      refine dg_s (pc' := 19) [.int (m.1 (x0 + 2) (Int32.toNatClampNeg x2)), .int x1] rfl (fun _ => rfl) rfl ?_
      refine dw_if (fun t => Φ (Option.bind t (dc_bk (d_X10_ownWires_l4s x0 m)))) ((Int32.toInt (m.1 (x0 + 2) (Int32.toNatClampNeg x2))) ≤ 0) [.int x1] 28 22 rfl (fun _ => rfl) (fun c1 => ?_) (fun c1 => ?_)
      · refine dw_g rfl ?_
        refine dg_s (pc' := 29) [.int (0 : Int32), .int x1] rfl (fun _ => rfl) rfl ?_
        refine dg_s (pc' := 30) [.int (x1 ||| (0 : Int32))] rfl (fun _ => rfl) rfl ?_
        refine dg_L (pc' := 31) [(1, .int (x1 ||| (0 : Int32))), (0, .ref x0), (2, .int x2)] [] rfl (fun _ => rfl) rfl ?_
        refine dg_L (pc' := 34) [(2, .int (x2 + (1 : Int32))), (1, .int (x1 ||| (0 : Int32))), (0, .ref x0)] [] rfl (fun _ => rfl) rfl ?_
        refine dw_s (pc' := 4) [] rfl (fun _ => rfl) ?_
        exact dw_j rfl (fun lv1 hv => ih (x1 ||| (0 : Int32)) (x2 + (1 : Int32)) lv1 (hv.1 _ rfl) (hv.2.1 _ rfl) (hv.2.2.1 _ rfl))
      · refine dw_g rfl ?_
        refine dg_s (pc' := 23) [.int (1 : Int32), .int x1] rfl (fun _ => rfl) rfl ?_
        refine dg_s (pc' := 24) [.int x2, .int (1 : Int32), .int x1] rfl (fun _ => rfl) rfl ?_
        refine dg_s (pc' := 25) [.int ((1 : Int32) <<< (x2 &&& 31)), .int x1] rfl (fun _ => rfl) rfl ?_
        refine dg_s (pc' := 29) [.int ((1 : Int32) <<< (x2 &&& 31)), .int x1] rfl (fun _ => rfl) rfl ?_
        refine dg_s (pc' := 30) [.int (x1 ||| ((1 : Int32) <<< (x2 &&& 31)))] rfl (fun _ => rfl) rfl ?_
        refine dg_L (pc' := 31) [(1, .int (x1 ||| ((1 : Int32) <<< (x2 &&& 31)))), (0, .ref x0), (2, .int x2)] [] rfl (fun _ => rfl) rfl ?_
        refine dg_L (pc' := 34) [(2, .int (x2 + (1 : Int32))), (1, .int (x1 ||| ((1 : Int32) <<< (x2 &&& 31)))), (0, .ref x0)] [] rfl (fun _ => rfl) rfl ?_
        refine dw_s (pc' := 4) [] rfl (fun _ => rfl) ?_
        exact dw_j rfl (fun lv1 hv => ih (x1 ||| ((1 : Int32) <<< (x2 &&& 31))) (x2 + (1 : Int32)) lv1 (hv.1 _ rfl) (hv.2.1 _ rfl) (hv.2.2.1 _ rfl))
noncomputable def d_X10_ownWires (x0 : Nat) (m : dc_M) : Option Int32 :=
  (d_X10_ownWires_l4 x0 (0 : Int32) (0 : Int32) m)
set_option maxHeartbeats 8000000 in
theorem k_X10_ownWires {u : Nat} {N : Nat} {Φ : (Option Int32) → Option Value → dc_M → Prop} (x0 : Nat) (m : dc_M) (kR : ∀ (v : Int32), Φ (some (v)) (some (.int v)) m)  {lv : ab_L} (f0 : ab_lk lv 0 = some (.ref x0)) : dc_pv u N ab_M_X10_ownWires 0 lv [] m (Φ (d_X10_ownWires x0 m)) := by
  refine dc_pv.mono (dc_ok (C := C_X10_ownWires) (S := S_X10_ownWires) CO_X10_ownWires 400 0 [(0, .ref x0)] lv [] m (dc_sub_cons f0 (dc_sub_nil)) ?_) (Nat.le_succ N)
  unfold d_X10_ownWires
  refine dg_s (pc' := 1) [.int (0 : Int32)] rfl (fun _ => rfl) rfl ?_
  refine dg_L (pc' := 2) [(1, .int (0 : Int32)), (0, .ref x0)] [] rfl (fun _ => rfl) rfl ?_
  refine dg_s (pc' := 3) [.int (0 : Int32)] rfl (fun _ => rfl) rfl ?_
  refine dw_L (pc' := 4) [(2, .int (0 : Int32)), (1, .int (0 : Int32)), (0, .ref x0)] [] rfl (fun _ => rfl) ?_
  exact dw_j rfl (fun lv1 hv => k_X10_ownWires_l4 (Φ := (fun t => Φ t)) x0 m (fun _a  => kR _a) N  (0 : Int32) (0 : Int32) lv1 (hv.1 _ rfl) (hv.2.1 _ rfl) (hv.2.2.1 _ rfl))
noncomputable def H_X10_ownWires : dc_H := fun As m k => match As with
  | [.ref x0] => (d_X10_ownWires x0 m).bind (fun q => k (some (.int q)) m)
  | _ => dc_kz
theorem H_X10_ownWires_ok {u : Nat} : dc_cok u 182 H_X10_ownWires := fun M' hG N As m k P hz hP => by
  obtain rfl : ab_M_X10_ownWires = M' := Option.some.inj hG
  unfold H_X10_ownWires at hP
  split at hP
  · rename_i x0
    exact dc_pv.imp (k_X10_ownWires (Φ := fun (t : Option Int32) r m' => P (t.bind (fun q => k (some (.int q)) m)) → P (k r m')) x0 m (fun _  h => h) rfl) (fun r m' h => h hP)
  · exact absurd hP hz
noncomputable def C_X10_layQuarrels : List (Nat × dc_H) := [(180, H_X10_aims), (182, H_X10_ownWires)]
theorem CO_X10_layQuarrels {u : Nat} : dc_CO u C_X10_layQuarrels := dc_CO_cons H_X10_aims_ok (dc_CO_cons H_X10_ownWires_ok (dc_CO_nil))
def S_X10_layQuarrels : List (Nat × List Nat) := [(24, [0, 1]), (36, [0, 1, 2]), (104, [0, 1, 2])]
noncomputable def d_X10_layQuarrels_b104 (x0 : Nat) (x1 : Int32) (x2 : Int32) (s0 : Int32) (s1 : Nat) (m : dc_M) : Option ((Int32 × dc_M) ⊕ ((Int32 × dc_M) ⊕ dc_M)) :=
  (if ¬ (Int32.toInt ((dc_wi m s1 41 s0).1 x0 40)) = 0 then some (Sum.inl ((x2 + (1 : Int32)), (dc_wi (dc_wi (dc_wi m s1 41 s0) x0 42 ((dc_wi m s1 41 s0).1 x0 42)) x0 40 (((dc_wi (dc_wi m s1 41 s0) x0 42 ((dc_wi m s1 41 s0).1 x0 42)).1 x0 40) + (1 : Int32))))) else some (Sum.inl ((x2 + (1 : Int32)), (dc_wi (dc_wi (dc_wi m s1 41 s0) x0 42 x2) x0 40 (((dc_wi (dc_wi m s1 41 s0) x0 42 x2).1 x0 40) + (1 : Int32))))))
set_option maxHeartbeats 8000000 in
theorem k_X10_layQuarrels_b104 {u : Nat} {N : Nat} {Φ : (Option ((Int32 × dc_M) ⊕ ((Int32 × dc_M) ⊕ dc_M))) → Option Value → dc_M → Prop} (x0 : Nat) (x1 : Int32) (x2 : Int32) (s0 : Int32) (s1 : Nat) (m : dc_M) (kR : ∀  (m : dc_M), Φ (some (Sum.inr (Sum.inr (m)))) (none) m) (k36 : ∀ (x2 : Int32) (m : dc_M) (lv : ab_L), ab_lk lv 0 = some (.ref x0) → ab_lk lv 1 = some (.int x1) → ab_lk lv 2 = some (.int x2) →  dc_pv u N ab_M_X10_layQuarrels 36 lv [] m (Φ (some (Sum.inl (x2, m))))) (k24 : ∀ (x1 : Int32) (m : dc_M) (lv : ab_L), ab_lk lv 0 = some (.ref x0) → ab_lk lv 1 = some (.int x1) →  dc_pv u N ab_M_X10_layQuarrels 24 lv [] m (Φ (some (Sum.inr (Sum.inl (x1, m)))))) {lv : ab_L} (f0 : ab_lk lv 0 = some (.ref x0)) (f1 : ab_lk lv 1 = some (.int x1)) (f2 : ab_lk lv 2 = some (.int x2)) : dc_pv u N ab_M_X10_layQuarrels 104 lv [.int s0, .ref s1] m (Φ (d_X10_layQuarrels_b104 x0 x1 x2 s0 s1 m)) := by
  refine dc_pv.mono (dc_ok (C := C_X10_layQuarrels) (S := S_X10_layQuarrels) CO_X10_layQuarrels 400 104 [(0, .ref x0), (1, .int x1), (2, .int x2)] lv [.int s0, .ref s1] m (dc_sub_cons f0 (dc_sub_cons f1 (dc_sub_cons f2 (dc_sub_nil)))) ?_) (Nat.le_succ N)
  unfold d_X10_layQuarrels_b104
  refine dg_m (pc' := 107) (dc_wi m s1 41 s0) [] rfl (fun _ => rfl) rfl ?_
  refine dg_s (pc' := 108) [.ref x0] rfl (fun _ => rfl) rfl ?_
  refine dg_s (pc' := 109) [.ref x0, .ref x0] rfl (fun _ => rfl) rfl ?_
  refine dg_s (pc' := 112) [.int ((dc_wi m s1 41 s0).1 x0 40), .ref x0] rfl (fun _ => rfl) rfl ?_
  refine dw_if (fun t => Φ t) (¬ (Int32.toInt ((dc_wi m s1 41 s0).1 x0 40)) = 0) [.ref x0] 119 115 rfl (fun _ => rfl) (fun c0 => ?_) (fun c0 => ?_)
  · refine dw_g rfl ?_
    refine dg_s (pc' := 120) [.ref x0, .ref x0] rfl (fun _ => rfl) rfl ?_
    refine dg_s (pc' := 123) [.int ((dc_wi m s1 41 s0).1 x0 42), .ref x0] rfl (fun _ => rfl) rfl ?_
    refine dg_m (pc' := 126) (dc_wi (dc_wi m s1 41 s0) x0 42 ((dc_wi m s1 41 s0).1 x0 42)) [] rfl (fun _ => rfl) rfl ?_
    refine dg_s (pc' := 127) [.ref x0] rfl (fun _ => rfl) rfl ?_
    refine dg_s (pc' := 128) [.ref x0, .ref x0] rfl (fun _ => rfl) rfl ?_
    refine dg_s (pc' := 131) [.int ((dc_wi (dc_wi m s1 41 s0) x0 42 ((dc_wi m s1 41 s0).1 x0 42)).1 x0 40), .ref x0] rfl (fun _ => rfl) rfl ?_
    refine dg_s (pc' := 132) [.int (1 : Int32), .int ((dc_wi (dc_wi m s1 41 s0) x0 42 ((dc_wi m s1 41 s0).1 x0 42)).1 x0 40), .ref x0] rfl (fun _ => rfl) rfl ?_
    refine dg_s (pc' := 133) [.int (((dc_wi (dc_wi m s1 41 s0) x0 42 ((dc_wi m s1 41 s0).1 x0 42)).1 x0 40) + (1 : Int32)), .ref x0] rfl (fun _ => rfl) rfl ?_
    refine dg_m (pc' := 136) (dc_wi (dc_wi (dc_wi m s1 41 s0) x0 42 ((dc_wi m s1 41 s0).1 x0 42)) x0 40 (((dc_wi (dc_wi m s1 41 s0) x0 42 ((dc_wi m s1 41 s0).1 x0 42)).1 x0 40) + (1 : Int32))) [] rfl (fun _ => rfl) rfl ?_
    refine dg_L (pc' := 139) [(2, .int (x2 + (1 : Int32))), (0, .ref x0), (1, .int x1)] [] rfl (fun _ => rfl) rfl ?_
    refine dw_s (pc' := 36) [] rfl (fun _ => rfl) ?_
    exact dw_j rfl (fun lv1 hv => k36 (x2 + (1 : Int32)) (dc_wi (dc_wi (dc_wi m s1 41 s0) x0 42 ((dc_wi m s1 41 s0).1 x0 42)) x0 40 (((dc_wi (dc_wi m s1 41 s0) x0 42 ((dc_wi m s1 41 s0).1 x0 42)).1 x0 40) + (1 : Int32))) lv1 (hv.1 _ rfl) (hv.2.1 _ rfl) (hv.2.2.1 _ rfl))
  · refine dw_g rfl ?_
    refine dg_s (pc' := 116) [.int x2, .ref x0] rfl (fun _ => rfl) rfl ?_
    refine dg_s (pc' := 123) [.int x2, .ref x0] rfl (fun _ => rfl) rfl ?_
    refine dg_m (pc' := 126) (dc_wi (dc_wi m s1 41 s0) x0 42 x2) [] rfl (fun _ => rfl) rfl ?_
    refine dg_s (pc' := 127) [.ref x0] rfl (fun _ => rfl) rfl ?_
    refine dg_s (pc' := 128) [.ref x0, .ref x0] rfl (fun _ => rfl) rfl ?_
    refine dg_s (pc' := 131) [.int ((dc_wi (dc_wi m s1 41 s0) x0 42 x2).1 x0 40), .ref x0] rfl (fun _ => rfl) rfl ?_
    refine dg_s (pc' := 132) [.int (1 : Int32), .int ((dc_wi (dc_wi m s1 41 s0) x0 42 x2).1 x0 40), .ref x0] rfl (fun _ => rfl) rfl ?_
    refine dg_s (pc' := 133) [.int (((dc_wi (dc_wi m s1 41 s0) x0 42 x2).1 x0 40) + (1 : Int32)), .ref x0] rfl (fun _ => rfl) rfl ?_
    refine dg_m (pc' := 136) (dc_wi (dc_wi (dc_wi m s1 41 s0) x0 42 x2) x0 40 (((dc_wi (dc_wi m s1 41 s0) x0 42 x2).1 x0 40) + (1 : Int32))) [] rfl (fun _ => rfl) rfl ?_
    refine dg_L (pc' := 139) [(2, .int (x2 + (1 : Int32))), (0, .ref x0), (1, .int x1)] [] rfl (fun _ => rfl) rfl ?_
    refine dw_s (pc' := 36) [] rfl (fun _ => rfl) ?_
    exact dw_j rfl (fun lv1 hv => k36 (x2 + (1 : Int32)) (dc_wi (dc_wi (dc_wi m s1 41 s0) x0 42 x2) x0 40 (((dc_wi (dc_wi m s1 41 s0) x0 42 x2).1 x0 40) + (1 : Int32))) lv1 (hv.1 _ rfl) (hv.2.1 _ rfl) (hv.2.2.1 _ rfl))
noncomputable def d_X10_layQuarrels_l36b (x0 : Nat) (x1 : Int32) (x2 : Int32) (m : dc_M) : Option ((Int32 × dc_M) ⊕ ((Int32 × dc_M) ⊕ dc_M)) :=
  (if (Int32.toInt (m.1 x0 32)) ≤ (Int32.toInt x2) then some (Sum.inr (Sum.inl ((x1 + (1 : Int32)), m))) else (if ¬ (Int32.toInt (m.1 (x0 + 19) (Int32.toNatClampNeg x1))) = (Int32.toInt (m.1 (x0 + 19) (Int32.toNatClampNeg x2))) then some (Sum.inl ((x2 + (1 : Int32)), m)) else ((d_X10_aims x0 x1 (dc_wi m x0 39 ((m.1 x0 39) + (1 : Int32)))).bind (fun q1 => ((d_X10_aims x0 x2 (dc_wi m x0 39 ((m.1 x0 39) + (1 : Int32)))).bind (fun q2 => ((d_X10_ownWires x0 (dc_wi m x0 39 ((m.1 x0 39) + (1 : Int32)))).bind (fun q3 => (if (Int32.toInt ((q1 ^^^ q2) &&& q3)) = 0 then some (Sum.inl ((x2 + (1 : Int32)), (dc_wi m x0 39 ((m.1 x0 39) + (1 : Int32))))) else (if ¬ (Int32.toInt ((dc_wi m x0 39 ((m.1 x0 39) + (1 : Int32))).1 x0 40)) = 0 then (d_X10_layQuarrels_b104 x0 x1 x2 ((dc_wi m x0 39 ((m.1 x0 39) + (1 : Int32))).1 x0 41) x0 (dc_wi m x0 39 ((m.1 x0 39) + (1 : Int32)))) else (d_X10_layQuarrels_b104 x0 x1 x2 x1 x0 (dc_wi m x0 39 ((m.1 x0 39) + (1 : Int32))))))))))))))
noncomputable def d_X10_layQuarrels_l36s (x0 : Nat) (x1 : Int32) : (Int32 × dc_M) → Option ((Int32 × dc_M) ⊕ ((Int32 × dc_M) ⊕ dc_M)) := fun s => d_X10_layQuarrels_l36b x0 x1 s.1 s.2
noncomputable def d_X10_layQuarrels_l36 (x0 : Nat) (x1 : Int32) (x2 : Int32) (m : dc_M) : Option ((Int32 × dc_M) ⊕ dc_M) := dc_lp (d_X10_layQuarrels_l36s x0 x1) (x2, m)
set_option maxHeartbeats 8000000 in
theorem k_X10_layQuarrels_l36 {u : Nat} {Φ : (Option ((Int32 × dc_M) ⊕ dc_M)) → Option Value → dc_M → Prop} (x0 : Nat) (x1 : Int32) (kR : ∀  (m : dc_M), Φ (some (Sum.inr (m))) (none) m) : ∀ (N : Nat), (∀ (x1 : Int32) (m : dc_M) (lv : ab_L), ab_lk lv 0 = some (.ref x0) → ab_lk lv 1 = some (.int x1) →  dc_pv u N ab_M_X10_layQuarrels 24 lv [] m (Φ (some (Sum.inl (x1, m))))) → ∀ (x2 : Int32) (m : dc_M) (lv : ab_L), ab_lk lv 0 = some (.ref x0) → ab_lk lv 1 = some (.int x1) → ab_lk lv 2 = some (.int x2) → dc_pv u N ab_M_X10_layQuarrels 36 lv [] m (Φ (d_X10_layQuarrels_l36 x0 x1 x2 m)) := by
  intro N
  induction N with
  | zero => intros; exact dc_pv_zero
  | succ N ih =>
    intro k24 x2 m lv f0 f1 f2
    have k24 := fun a0 a1 a2 a3 a4 => (k24 a0 a1 a2 a3 a4).mono (Nat.le_succ N)
    have ih := ih k24
    refine dc_ok (C := C_X10_layQuarrels) (S := S_X10_layQuarrels) CO_X10_layQuarrels 400 36 [(0, .ref x0), (1, .int x1), (2, .int x2)] lv [] m (dc_sub_cons f0 (dc_sub_cons f1 (dc_sub_cons f2 (dc_sub_nil)))) ?_
    unfold d_X10_layQuarrels_l36
    rw [dc_lp_eq]
    show (fun t x => dc_lf u N ab_M_X10_layQuarrels (Φ (Option.bind t (dc_bk (d_X10_layQuarrels_l36s x0 x1)))) x) (d_X10_layQuarrels_l36b x0 x1 x2 m) _
    dsimp only
    unfold d_X10_layQuarrels_l36b
    refine dg_s (pc' := 37) [.int x2] rfl (fun _ => rfl) rfl ?_
    refine dg_s (pc' := 38) [.ref x0, .int x2] rfl (fun _ => rfl) rfl ?_
    refine dg_s (pc' := 41) [.int (m.1 x0 32), .int x2] rfl (fun _ => rfl) rfl ?_
    refine dw_if (fun t => Φ (Option.bind t (dc_bk (d_X10_layQuarrels_l36s x0 x1)))) ((Int32.toInt (m.1 x0 32)) ≤ (Int32.toInt x2)) [] 142 44 rfl (fun _ => rfl) (fun c0 => ?_) (fun c0 => ?_)
    · refine dw_g rfl ?_
      refine dg_L (pc' := 145) [(1, .int (x1 + (1 : Int32))), (0, .ref x0), (2, .int x2)] [] rfl (fun _ => rfl) rfl ?_
      refine dw_s (pc' := 24) [] rfl (fun _ => rfl) ?_
      exact dw_j rfl (fun lv1 hv => k24 (x1 + (1 : Int32)) m lv1 (hv.1 _ rfl) (hv.2.1 _ rfl))
    · refine dw_g rfl ?_
      refine dg_s (pc' := 45) [.ref x0] rfl (fun _ => rfl) rfl ?_
      refine dg_s (pc' := 48) [.ref (x0 + 19)] rfl (fun _ => rfl) rfl ?_
      refine dg_s (pc' := 49) [.int x1, .ref (x0 + 19)] rfl (fun _ => rfl) rfl ?_
      refine dg_s (pc' := 50) [.int (m.1 (x0 + 19) (Int32.toNatClampNeg x1))] rfl (fun _ => rfl) rfl ?_
      refine dg_s (pc' := 51) [.ref x0, .int (m.1 (x0 + 19) (Int32.toNatClampNeg x1))] rfl (fun _ => rfl) rfl ?_
      refine dg_s (pc' := 54) [.ref (x0 + 19), .int (m.1 (x0 + 19) (Int32.toNatClampNeg x1))] rfl (fun _ => rfl) rfl ?_
      refine dg_s (pc' := 55) [.int x2, .ref (x0 + 19), .int (m.1 (x0 + 19) (Int32.toNatClampNeg x1))] rfl (fun _ => rfl) rfl ?_
      refine dg_s (pc' := 56) [.int (m.1 (x0 + 19) (Int32.toNatClampNeg x2)), .int (m.1 (x0 + 19) (Int32.toNatClampNeg x1))] rfl (fun _ => rfl) rfl ?_
      refine dw_if (fun t => Φ (Option.bind t (dc_bk (d_X10_layQuarrels_l36s x0 x1)))) (¬ (Int32.toInt (m.1 (x0 + 19) (Int32.toNatClampNeg x1))) = (Int32.toInt (m.1 (x0 + 19) (Int32.toNatClampNeg x2)))) [] 136 59 rfl (fun _ => rfl) (fun c1 => ?_) (fun c1 => ?_)
      · refine dw_g rfl ?_
        refine dg_L (pc' := 139) [(2, .int (x2 + (1 : Int32))), (0, .ref x0), (1, .int x1)] [] rfl (fun _ => rfl) rfl ?_
        refine dw_s (pc' := 36) [] rfl (fun _ => rfl) ?_
        exact dw_j rfl (fun lv1 hv => ih (x2 + (1 : Int32)) m lv1 (hv.1 _ rfl) (hv.2.1 _ rfl) (hv.2.2.1 _ rfl))
      · refine dw_g rfl ?_
        refine dg_s (pc' := 60) [.ref x0] rfl (fun _ => rfl) rfl ?_
        refine dg_s (pc' := 61) [.ref x0, .ref x0] rfl (fun _ => rfl) rfl ?_
        refine dg_s (pc' := 64) [.int (m.1 x0 39), .ref x0] rfl (fun _ => rfl) rfl ?_
        refine dg_s (pc' := 65) [.int (1 : Int32), .int (m.1 x0 39), .ref x0] rfl (fun _ => rfl) rfl ?_
        refine dg_s (pc' := 66) [.int ((m.1 x0 39) + (1 : Int32)), .ref x0] rfl (fun _ => rfl) rfl ?_
        refine dg_m (pc' := 69) (dc_wi m x0 39 ((m.1 x0 39) + (1 : Int32))) [] rfl (fun _ => rfl) rfl ?_
        refine dg_s (pc' := 70) [.ref x0] rfl (fun _ => rfl) rfl ?_
        refine dg_s (pc' := 71) [.int x1, .ref x0] rfl (fun _ => rfl) rfl ?_
        refine dw_b (fun t => Φ (Option.bind t (dc_bk (d_X10_layQuarrels_l36s x0 x1)))) (pc' := 74) (fun q1 => [.int q1]) (fun q1 => (dc_wi m x0 39 ((m.1 x0 39) + (1 : Int32)))) rfl (fun _ => rfl) (fun q1 => ?_)
        refine dw_g rfl ?_
        refine dg_s (pc' := 75) [.ref x0, .int q1] rfl (fun _ => rfl) rfl ?_
        refine dg_s (pc' := 76) [.int x2, .ref x0, .int q1] rfl (fun _ => rfl) rfl ?_
        refine dw_b (fun t => Φ (Option.bind t (dc_bk (d_X10_layQuarrels_l36s x0 x1)))) (pc' := 79) (fun q2 => [.int q2, .int q1]) (fun q2 => (dc_wi m x0 39 ((m.1 x0 39) + (1 : Int32)))) rfl (fun _ => rfl) (fun q2 => ?_)
        refine dw_g rfl ?_
        refine dg_s (pc' := 80) [.int (q1 ^^^ q2)] rfl (fun _ => rfl) rfl ?_
        refine dg_s (pc' := 81) [.ref x0, .int (q1 ^^^ q2)] rfl (fun _ => rfl) rfl ?_
        refine dw_b (fun t => Φ (Option.bind t (dc_bk (d_X10_layQuarrels_l36s x0 x1)))) (pc' := 84) (fun q3 => [.int q3, .int (q1 ^^^ q2)]) (fun q3 => (dc_wi m x0 39 ((m.1 x0 39) + (1 : Int32)))) rfl (fun _ => rfl) (fun q3 => ?_)
        refine dw_g rfl ?_
        refine dg_s (pc' := 85) [.int ((q1 ^^^ q2) &&& q3)] rfl (fun _ => rfl) rfl ?_
        refine dw_if (fun t => Φ (Option.bind t (dc_bk (d_X10_layQuarrels_l36s x0 x1)))) ((Int32.toInt ((q1 ^^^ q2) &&& q3)) = 0) [] 136 88 rfl (fun _ => rfl) (fun c2 => ?_) (fun c2 => ?_)
        · refine dw_g rfl ?_
          refine dg_L (pc' := 139) [(2, .int (x2 + (1 : Int32))), (0, .ref x0), (1, .int x1)] [] rfl (fun _ => rfl) rfl ?_
          refine dw_s (pc' := 36) [] rfl (fun _ => rfl) ?_
          exact dw_j rfl (fun lv1 hv => ih (x2 + (1 : Int32)) (dc_wi m x0 39 ((m.1 x0 39) + (1 : Int32))) lv1 (hv.1 _ rfl) (hv.2.1 _ rfl) (hv.2.2.1 _ rfl))
        · refine dw_g rfl ?_
          refine dg_s (pc' := 89) [.ref x0] rfl (fun _ => rfl) rfl ?_
          refine dg_s (pc' := 90) [.ref x0, .ref x0] rfl (fun _ => rfl) rfl ?_
          refine dg_s (pc' := 93) [.int ((dc_wi m x0 39 ((m.1 x0 39) + (1 : Int32))).1 x0 40), .ref x0] rfl (fun _ => rfl) rfl ?_
          refine dw_if (fun t => Φ (Option.bind t (dc_bk (d_X10_layQuarrels_l36s x0 x1)))) (¬ (Int32.toInt ((dc_wi m x0 39 ((m.1 x0 39) + (1 : Int32))).1 x0 40)) = 0) [.ref x0] 100 96 rfl (fun _ => rfl) (fun c3 => ?_) (fun c3 => ?_)
          · refine dw_g rfl ?_
            refine dg_s (pc' := 101) [.ref x0, .ref x0] rfl (fun _ => rfl) rfl ?_
            refine dw_s (pc' := 104) [.int ((dc_wi m x0 39 ((m.1 x0 39) + (1 : Int32))).1 x0 41), .ref x0] rfl (fun _ => rfl) ?_
            exact dw_j rfl (fun lv1 hv => k_X10_layQuarrels_b104 (Φ := (fun t => Φ (Option.bind t (dc_bk (d_X10_layQuarrels_l36s x0 x1))))) x0 x1 x2 ((dc_wi m x0 39 ((m.1 x0 39) + (1 : Int32))).1 x0 41) x0 (dc_wi m x0 39 ((m.1 x0 39) + (1 : Int32))) (fun _b => kR _b) ih k24 (hv.1 _ rfl) (hv.2.1 _ rfl) (hv.2.2.1 _ rfl))
          · refine dw_g rfl ?_
            refine dg_s (pc' := 97) [.int x1, .ref x0] rfl (fun _ => rfl) rfl ?_
            refine dw_s (pc' := 104) [.int x1, .ref x0] rfl (fun _ => rfl) ?_
            exact dw_j rfl (fun lv1 hv => k_X10_layQuarrels_b104 (Φ := (fun t => Φ (Option.bind t (dc_bk (d_X10_layQuarrels_l36s x0 x1))))) x0 x1 x2 x1 x0 (dc_wi m x0 39 ((m.1 x0 39) + (1 : Int32))) (fun _b => kR _b) ih k24 (hv.1 _ rfl) (hv.2.1 _ rfl) (hv.2.2.1 _ rfl))
noncomputable def d_X10_layQuarrels_l24b (x0 : Nat) (x1 : Int32) (m : dc_M) : Option ((Int32 × dc_M) ⊕ dc_M) :=
  (if (Int32.toInt (m.1 x0 32)) ≤ (Int32.toInt x1) then some (Sum.inr (m)) else (d_X10_layQuarrels_l36 x0 x1 (x1 + (1 : Int32)) m))
noncomputable def d_X10_layQuarrels_l24s (x0 : Nat) : (Int32 × dc_M) → Option ((Int32 × dc_M) ⊕ dc_M) := fun s => d_X10_layQuarrels_l24b x0 s.1 s.2
noncomputable def d_X10_layQuarrels_l24 (x0 : Nat) (x1 : Int32) (m : dc_M) : Option dc_M := dc_lp (d_X10_layQuarrels_l24s x0) (x1, m)
set_option maxHeartbeats 8000000 in
theorem k_X10_layQuarrels_l24 {u : Nat} {Φ : (Option dc_M) → Option Value → dc_M → Prop} (x0 : Nat) (kR : ∀  (m : dc_M), Φ (some (m)) (none) m) : ∀ (N : Nat), ∀ (x1 : Int32) (m : dc_M) (lv : ab_L), ab_lk lv 0 = some (.ref x0) → ab_lk lv 1 = some (.int x1) → dc_pv u N ab_M_X10_layQuarrels 24 lv [] m (Φ (d_X10_layQuarrels_l24 x0 x1 m)) := by
  intro N
  induction N with
  | zero => intros; exact dc_pv_zero
  | succ N ih =>
    intro x1 m lv f0 f1
    refine dc_ok (C := C_X10_layQuarrels) (S := S_X10_layQuarrels) CO_X10_layQuarrels 400 24 [(0, .ref x0), (1, .int x1)] lv [] m (dc_sub_cons f0 (dc_sub_cons f1 (dc_sub_nil))) ?_
    unfold d_X10_layQuarrels_l24
    rw [dc_lp_eq]
    show (fun t x => dc_lf u N ab_M_X10_layQuarrels (Φ (Option.bind t (dc_bk (d_X10_layQuarrels_l24s x0)))) x) (d_X10_layQuarrels_l24b x0 x1 m) _
    dsimp only
    unfold d_X10_layQuarrels_l24b
    refine dg_s (pc' := 25) [.int x1] rfl (fun _ => rfl) rfl ?_
    refine dg_s (pc' := 26) [.ref x0, .int x1] rfl (fun _ => rfl) rfl ?_
    refine dg_s (pc' := 29) [.int (m.1 x0 32), .int x1] rfl (fun _ => rfl) rfl ?_
    refine dw_if (fun t => Φ (Option.bind t (dc_bk (d_X10_layQuarrels_l24s x0)))) ((Int32.toInt (m.1 x0 32)) ≤ (Int32.toInt x1)) [] 148 32 rfl (fun _ => rfl) (fun c0 => ?_) (fun c0 => ?_)
    · refine dw_g rfl ?_
      exact dw_r (some (.inl (none, m))) rfl (fun _ => rfl) (kR _)
    · refine dw_g rfl ?_
      refine dg_s (pc' := 33) [.int x1] rfl (fun _ => rfl) rfl ?_
      refine dg_s (pc' := 34) [.int (1 : Int32), .int x1] rfl (fun _ => rfl) rfl ?_
      refine dg_s (pc' := 35) [.int (x1 + (1 : Int32))] rfl (fun _ => rfl) rfl ?_
      refine dw_L (pc' := 36) [(2, .int (x1 + (1 : Int32))), (0, .ref x0), (1, .int x1)] [] rfl (fun _ => rfl) ?_
      exact dw_j rfl (fun lv1 hv => k_X10_layQuarrels_l36 (Φ := (fun t => Φ (Option.bind t (dc_bk (d_X10_layQuarrels_l24s x0))))) x0 x1 (fun _b => kR _b) N ih (x1 + (1 : Int32)) m lv1 (hv.1 _ rfl) (hv.2.1 _ rfl) (hv.2.2.1 _ rfl))
noncomputable def d_X10_layQuarrels (x0 : Nat) (m : dc_M) : Option dc_M :=
  (d_X10_layQuarrels_l24 x0 (0 : Int32) (dc_wi (dc_wi (dc_wi (dc_wi m x0 39 (0 : Int32)) x0 40 (0 : Int32)) x0 41 (-4 : Int32)) x0 42 (-4 : Int32)))
set_option maxHeartbeats 8000000 in
theorem k_X10_layQuarrels {u : Nat} {N : Nat} {Φ : (Option dc_M) → Option Value → dc_M → Prop} (x0 : Nat) (m : dc_M) (kR : ∀  (m : dc_M), Φ (some (m)) (none) m)  {lv : ab_L} (f0 : ab_lk lv 0 = some (.ref x0)) : dc_pv u N ab_M_X10_layQuarrels 0 lv [] m (Φ (d_X10_layQuarrels x0 m)) := by
  refine dc_pv.mono (dc_ok (C := C_X10_layQuarrels) (S := S_X10_layQuarrels) CO_X10_layQuarrels 400 0 [(0, .ref x0)] lv [] m (dc_sub_cons f0 (dc_sub_nil)) ?_) (Nat.le_succ N)
  unfold d_X10_layQuarrels
  refine dg_s (pc' := 1) [.ref x0] rfl (fun _ => rfl) rfl ?_
  refine dg_s (pc' := 2) [.int (0 : Int32), .ref x0] rfl (fun _ => rfl) rfl ?_
  refine dg_m (pc' := 5) (dc_wi m x0 39 (0 : Int32)) [] rfl (fun _ => rfl) rfl ?_
  refine dg_s (pc' := 6) [.ref x0] rfl (fun _ => rfl) rfl ?_
  refine dg_s (pc' := 7) [.int (0 : Int32), .ref x0] rfl (fun _ => rfl) rfl ?_
  refine dg_m (pc' := 10) (dc_wi (dc_wi m x0 39 (0 : Int32)) x0 40 (0 : Int32)) [] rfl (fun _ => rfl) rfl ?_
  refine dg_s (pc' := 11) [.ref x0] rfl (fun _ => rfl) rfl ?_
  refine dg_s (pc' := 13) [.int (-4 : Int32), .ref x0] rfl (fun _ => rfl) rfl ?_
  refine dg_m (pc' := 16) (dc_wi (dc_wi (dc_wi m x0 39 (0 : Int32)) x0 40 (0 : Int32)) x0 41 (-4 : Int32)) [] rfl (fun _ => rfl) rfl ?_
  refine dg_s (pc' := 17) [.ref x0] rfl (fun _ => rfl) rfl ?_
  refine dg_s (pc' := 19) [.int (-4 : Int32), .ref x0] rfl (fun _ => rfl) rfl ?_
  refine dg_m (pc' := 22) (dc_wi (dc_wi (dc_wi (dc_wi m x0 39 (0 : Int32)) x0 40 (0 : Int32)) x0 41 (-4 : Int32)) x0 42 (-4 : Int32)) [] rfl (fun _ => rfl) rfl ?_
  refine dg_s (pc' := 23) [.int (0 : Int32)] rfl (fun _ => rfl) rfl ?_
  refine dw_L (pc' := 24) [(1, .int (0 : Int32)), (0, .ref x0)] [] rfl (fun _ => rfl) ?_
  exact dw_j rfl (fun lv1 hv => k_X10_layQuarrels_l24 (Φ := (fun t => Φ t)) x0 (fun _b => kR _b) N  (0 : Int32) (dc_wi (dc_wi (dc_wi (dc_wi m x0 39 (0 : Int32)) x0 40 (0 : Int32)) x0 41 (-4 : Int32)) x0 42 (-4 : Int32)) lv1 (hv.1 _ rfl) (hv.2.1 _ rfl))
noncomputable def H_X10_layQuarrels : dc_H := fun As m k => match As with
  | [.ref x0] => (d_X10_layQuarrels x0 m).bind (fun q => k (none) q)
  | _ => dc_kz
theorem H_X10_layQuarrels_ok {u : Nat} : dc_cok u 183 H_X10_layQuarrels := fun M' hG N As m k P hz hP => by
  obtain rfl : ab_M_X10_layQuarrels = M' := Option.some.inj hG
  unfold H_X10_layQuarrels at hP
  split at hP
  · rename_i x0
    exact dc_pv.imp (k_X10_layQuarrels (Φ := fun (t : Option dc_M) r m' => P (t.bind (fun q => k (none) q)) → P (k r m')) x0 m (fun _ h => h) rfl) (fun r m' h => h hP)
  · exact absurd hP hz
noncomputable def C_X10_quarrels : List (Nat × dc_H) := [(146, H_X10_in), (183, H_X10_layQuarrels), (175, H_X10_layRight)]
theorem CO_X10_quarrels {u : Nat} : dc_CO u C_X10_quarrels := dc_CO_cons H_X10_in_ok (dc_CO_cons H_X10_layQuarrels_ok (dc_CO_cons H_X10_layRight_ok (dc_CO_nil)))
def S_X10_quarrels : List (Nat × List Nat) := []
noncomputable def d_X10_quarrels (x0 : Nat) (x1 : Int32) (m : dc_M) : Option (Int32 × dc_M) :=
  (if ¬ (Int32.toInt (d_X10_in (Int32.toInt64 x1) (0 : Int64) (3 : Int64) m)) = 0 then ((d_X10_layRight x0 m).bind (fun q1 => (if ¬ (Int32.toInt q1.1) = 0 then ((d_X10_layQuarrels x0 q1.2).bind (fun q2 => (if ¬ (Int32.toInt x1) = 0 then (if ¬ (Int32.toInt x1) = 1 then (if ¬ (Int32.toInt x1) = 2 then some (((q2.1 x0 42), q2)) else some (((q2.1 x0 41), q2))) else some (((q2.1 x0 40), q2))) else some (((q2.1 x0 39), q2))))) else some (((-2 : Int32), q1.2))))) else some (((-1 : Int32), m)))
set_option maxHeartbeats 8000000 in
theorem k_X10_quarrels {u : Nat} {N : Nat} {Φ : (Option (Int32 × dc_M)) → Option Value → dc_M → Prop} (x0 : Nat) (x1 : Int32) (m : dc_M) (kR : ∀ (v : Int32) (m : dc_M), Φ (some ((v, m))) (some (.int v)) m)  {lv : ab_L} (f0 : ab_lk lv 0 = some (.ref x0)) (f1 : ab_lk lv 1 = some (.int x1)) : dc_pv u N ab_M_X10_quarrels 0 lv [] m (Φ (d_X10_quarrels x0 x1 m)) := by
  refine dc_pv.mono (dc_ok (C := C_X10_quarrels) (S := S_X10_quarrels) CO_X10_quarrels 400 0 [(0, .ref x0), (1, .int x1)] lv [] m (dc_sub_cons f0 (dc_sub_cons f1 (dc_sub_nil))) ?_) (Nat.le_succ N)
  unfold d_X10_quarrels
  refine dg_s (pc' := 1) [.int x1] rfl (fun _ => rfl) rfl ?_
  refine dg_s (pc' := 2) [.long (Int32.toInt64 x1)] rfl (fun _ => rfl) rfl ?_
  refine dg_s (pc' := 3) [.long (0 : Int64), .long (Int32.toInt64 x1)] rfl (fun _ => rfl) rfl ?_
  refine dg_s (pc' := 6) [.long (3 : Int64), .long (0 : Int64), .long (Int32.toInt64 x1)] rfl (fun _ => rfl) rfl ?_
  refine dg_s (pc' := 9) [.int (d_X10_in (Int32.toInt64 x1) (0 : Int64) (3 : Int64) m)] rfl (fun _ => rfl) rfl ?_
  refine dw_if (fun t => Φ t) (¬ (Int32.toInt (d_X10_in (Int32.toInt64 x1) (0 : Int64) (3 : Int64) m)) = 0) [] 14 12 rfl (fun _ => rfl) (fun c0 => ?_) (fun c0 => ?_)
  · refine dw_g rfl ?_
    refine dg_s (pc' := 15) [.ref x0] rfl (fun _ => rfl) rfl ?_
    refine dw_b (fun t => Φ t) (pc' := 18) (fun q1 => [.int q1.1]) (fun q1 => q1.2) rfl (fun _ => rfl) (fun q1 => ?_)
    refine dw_g rfl ?_
    refine dw_if (fun t => Φ t) (¬ (Int32.toInt q1.1) = 0) [] 24 21 rfl (fun _ => rfl) (fun c1 => ?_) (fun c1 => ?_)
    · refine dw_g rfl ?_
      refine dg_s (pc' := 25) [.ref x0] rfl (fun _ => rfl) rfl ?_
      refine dw_b (fun t => Φ t) (pc' := 28) (fun q2 => []) (fun q2 => q2) rfl (fun _ => rfl) (fun q2 => ?_)
      refine dw_g rfl ?_
      refine dg_s (pc' := 29) [.int x1] rfl (fun _ => rfl) rfl ?_
      refine dw_if (fun t => Φ t) (¬ (Int32.toInt x1) = 0) [] 39 32 rfl (fun _ => rfl) (fun c2 => ?_) (fun c2 => ?_)
      · refine dw_g rfl ?_
        refine dg_s (pc' := 40) [.int x1] rfl (fun _ => rfl) rfl ?_
        refine dg_s (pc' := 41) [.int (1 : Int32), .int x1] rfl (fun _ => rfl) rfl ?_
        refine dw_if (fun t => Φ t) (¬ (Int32.toInt x1) = 1) [] 51 44 rfl (fun _ => rfl) (fun c3 => ?_) (fun c3 => ?_)
        · refine dw_g rfl ?_
          refine dg_s (pc' := 52) [.int x1] rfl (fun _ => rfl) rfl ?_
          refine dg_s (pc' := 53) [.int (2 : Int32), .int x1] rfl (fun _ => rfl) rfl ?_
          refine dw_if (fun t => Φ t) (¬ (Int32.toInt x1) = 2) [] 63 56 rfl (fun _ => rfl) (fun c4 => ?_) (fun c4 => ?_)
          · refine dw_g rfl ?_
            refine dg_s (pc' := 64) [.ref x0] rfl (fun _ => rfl) rfl ?_
            refine dg_s (pc' := 67) [.int (q2.1 x0 42)] rfl (fun _ => rfl) rfl ?_
            exact dw_r (some (.inl (some (.int (q2.1 x0 42)), q2))) rfl (fun _ => rfl) (kR _ _)
          · refine dw_g rfl ?_
            refine dg_s (pc' := 57) [.ref x0] rfl (fun _ => rfl) rfl ?_
            refine dg_s (pc' := 60) [.int (q2.1 x0 41)] rfl (fun _ => rfl) rfl ?_
            refine dg_s (pc' := 67) [.int (q2.1 x0 41)] rfl (fun _ => rfl) rfl ?_
            exact dw_r (some (.inl (some (.int (q2.1 x0 41)), q2))) rfl (fun _ => rfl) (kR _ _)
        · refine dw_g rfl ?_
          refine dg_s (pc' := 45) [.ref x0] rfl (fun _ => rfl) rfl ?_
          refine dg_s (pc' := 48) [.int (q2.1 x0 40)] rfl (fun _ => rfl) rfl ?_
          refine dg_s (pc' := 67) [.int (q2.1 x0 40)] rfl (fun _ => rfl) rfl ?_
          exact dw_r (some (.inl (some (.int (q2.1 x0 40)), q2))) rfl (fun _ => rfl) (kR _ _)
      · refine dw_g rfl ?_
        refine dg_s (pc' := 33) [.ref x0] rfl (fun _ => rfl) rfl ?_
        refine dg_s (pc' := 36) [.int (q2.1 x0 39)] rfl (fun _ => rfl) rfl ?_
        refine dg_s (pc' := 67) [.int (q2.1 x0 39)] rfl (fun _ => rfl) rfl ?_
        exact dw_r (some (.inl (some (.int (q2.1 x0 39)), q2))) rfl (fun _ => rfl) (kR _ _)
    · refine dw_g rfl ?_
      refine dg_s (pc' := 23) [.int (-2 : Int32)] rfl (fun _ => rfl) rfl ?_
      exact dw_r (some (.inl (some (.int (-2 : Int32)), q1.2))) rfl (fun _ => rfl) (kR _ _)
  · refine dw_g rfl ?_
    refine dg_s (pc' := 13) [.int (-1 : Int32)] rfl (fun _ => rfl) rfl ?_
    exact dw_r (some (.inl (some (.int (-1 : Int32)), m))) rfl (fun _ => rfl) (kR _ _)
noncomputable def H_X10_quarrels : dc_H := fun As m k => match As with
  | [.ref x0, .int x1] => (d_X10_quarrels x0 x1 m).bind (fun q => k (some (.int q.1)) q.2)
  | _ => dc_kz
theorem H_X10_quarrels_ok {u : Nat} : dc_cok u 184 H_X10_quarrels := fun M' hG N As m k P hz hP => by
  obtain rfl : ab_M_X10_quarrels = M' := Option.some.inj hG
  unfold H_X10_quarrels at hP
  split at hP
  · rename_i x0 x1
    exact dc_pv.imp (k_X10_quarrels (Φ := fun (t : Option (Int32 × dc_M)) r m' => P (t.bind (fun q => k (some (.int q.1)) q.2)) → P (k r m')) x0 x1 m (fun _ _ h => h) rfl rfl) (fun r m' h => h hP)
  · exact absurd hP hz
noncomputable def C_X9_back : List (Nat × dc_H) := [(136, H_X9_findClashes), (135, H_X9_isRight)]
theorem CO_X9_back {u : Nat} : dc_CO u C_X9_back := dc_CO_cons H_X9_findClashes_ok (dc_CO_cons H_X9_isRight_ok (dc_CO_nil))
def S_X9_back : List (Nat × List Nat) := []
noncomputable def d_X9_back (x0 : Nat) (x1 : Int32) (m : dc_M) : Option (Int32 × dc_M) :=
  (if (Int32.toInt x1) < 0 then some (((-1 : Int32), m)) else (if (Int32.toInt x1) ≤ 3 then ((d_X9_isRight x0 m).bind (fun q1 => (if ¬ (Int32.toInt q1.1) = 0 then ((d_X9_findClashes x0 q1.2).bind (fun q2 => (if (Int32.toInt x1) = 0 then some (((q2.1 (x0 + 11) 4), q2)) else (if (Int32.toInt x1) = 1 then some (((q2.1 (x0 + 11) 5), q2)) else (if (Int32.toInt x1) = 2 then some (((q2.1 (x0 + 11) 6), q2)) else some (((q2.1 (x0 + 11) 7), q2))))))) else some (((-2 : Int32), q1.2))))) else some (((-1 : Int32), m))))
set_option maxHeartbeats 8000000 in
theorem k_X9_back {u : Nat} {N : Nat} {Φ : (Option (Int32 × dc_M)) → Option Value → dc_M → Prop} (x0 : Nat) (x1 : Int32) (m : dc_M) (kR : ∀ (v : Int32) (m : dc_M), Φ (some ((v, m))) (some (.int v)) m)  {lv : ab_L} (f0 : ab_lk lv 0 = some (.ref x0)) (f1 : ab_lk lv 1 = some (.int x1)) : dc_pv u N ab_M_X9_back 0 lv [] m (Φ (d_X9_back x0 x1 m)) := by
  refine dc_pv.mono (dc_ok (C := C_X9_back) (S := S_X9_back) CO_X9_back 400 0 [(0, .ref x0), (1, .int x1)] lv [] m (dc_sub_cons f0 (dc_sub_cons f1 (dc_sub_nil))) ?_) (Nat.le_succ N)
  unfold d_X9_back
  refine dg_s (pc' := 1) [.int x1] rfl (fun _ => rfl) rfl ?_
  refine dw_if (fun t => Φ t) ((Int32.toInt x1) < 0) [] 9 4 rfl (fun _ => rfl) (fun c0 => ?_) (fun c0 => ?_)
  · refine dw_g rfl ?_
    refine dg_s (pc' := 10) [.int (-1 : Int32)] rfl (fun _ => rfl) rfl ?_
    exact dw_r (some (.inl (some (.int (-1 : Int32)), m))) rfl (fun _ => rfl) (kR _ _)
  · refine dw_g rfl ?_
    refine dg_s (pc' := 5) [.int x1] rfl (fun _ => rfl) rfl ?_
    refine dg_s (pc' := 6) [.int (3 : Int32), .int x1] rfl (fun _ => rfl) rfl ?_
    refine dw_if (fun t => Φ t) ((Int32.toInt x1) ≤ 3) [] 11 9 rfl (fun _ => rfl) (fun c1 => ?_) (fun c1 => ?_)
    · refine dw_g rfl ?_
      refine dg_s (pc' := 12) [.ref x0] rfl (fun _ => rfl) rfl ?_
      refine dw_b (fun t => Φ t) (pc' := 15) (fun q1 => [.int q1.1]) (fun q1 => q1.2) rfl (fun _ => rfl) (fun q1 => ?_)
      refine dw_g rfl ?_
      refine dw_if (fun t => Φ t) (¬ (Int32.toInt q1.1) = 0) [] 21 18 rfl (fun _ => rfl) (fun c2 => ?_) (fun c2 => ?_)
      · refine dw_g rfl ?_
        refine dg_s (pc' := 22) [.ref x0] rfl (fun _ => rfl) rfl ?_
        refine dw_b (fun t => Φ t) (pc' := 25) (fun q2 => []) (fun q2 => q2) rfl (fun _ => rfl) (fun q2 => ?_)
        refine dw_g rfl ?_
        refine dg_s (pc' := 26) [.int x1] rfl (fun _ => rfl) rfl ?_
        refine dw_sw (fun t => Φ t) ((Int32.toInt x1)) 76 [(0, 52), (1, 60), (2, 68)] [] rfl (fun _ => rfl) ?_
        refine dw_ts (fun t => Φ t) (fun c3 => ?_) (fun c3 => ?_)
        · refine dw_g rfl ?_
          refine dg_s (pc' := 53) [.ref x0] rfl (fun _ => rfl) rfl ?_
          refine dg_s (pc' := 56) [.ref (x0 + 11)] rfl (fun _ => rfl) rfl ?_
          refine dg_s (pc' := 59) [.int (q2.1 (x0 + 11) 4)] rfl (fun _ => rfl) rfl ?_
          exact dw_r (some (.inl (some (.int (q2.1 (x0 + 11) 4)), q2))) rfl (fun _ => rfl) (kR _ _)
        refine dw_ts (fun t => Φ t) (fun c4 => ?_) (fun c4 => ?_)
        · refine dw_g rfl ?_
          refine dg_s (pc' := 61) [.ref x0] rfl (fun _ => rfl) rfl ?_
          refine dg_s (pc' := 64) [.ref (x0 + 11)] rfl (fun _ => rfl) rfl ?_
          refine dg_s (pc' := 67) [.int (q2.1 (x0 + 11) 5)] rfl (fun _ => rfl) rfl ?_
          exact dw_r (some (.inl (some (.int (q2.1 (x0 + 11) 5)), q2))) rfl (fun _ => rfl) (kR _ _)
        refine dw_ts (fun t => Φ t) (fun c5 => ?_) (fun c5 => ?_)
        · refine dw_g rfl ?_
          refine dg_s (pc' := 69) [.ref x0] rfl (fun _ => rfl) rfl ?_
          refine dg_s (pc' := 72) [.ref (x0 + 11)] rfl (fun _ => rfl) rfl ?_
          refine dg_s (pc' := 75) [.int (q2.1 (x0 + 11) 6)] rfl (fun _ => rfl) rfl ?_
          exact dw_r (some (.inl (some (.int (q2.1 (x0 + 11) 6)), q2))) rfl (fun _ => rfl) (kR _ _)
        refine dw_t0 ?_
        refine dw_g rfl ?_
        refine dg_s (pc' := 77) [.ref x0] rfl (fun _ => rfl) rfl ?_
        refine dg_s (pc' := 80) [.ref (x0 + 11)] rfl (fun _ => rfl) rfl ?_
        refine dg_s (pc' := 83) [.int (q2.1 (x0 + 11) 7)] rfl (fun _ => rfl) rfl ?_
        exact dw_r (some (.inl (some (.int (q2.1 (x0 + 11) 7)), q2))) rfl (fun _ => rfl) (kR _ _)
      · refine dw_g rfl ?_
        refine dg_s (pc' := 20) [.int (-2 : Int32)] rfl (fun _ => rfl) rfl ?_
        exact dw_r (some (.inl (some (.int (-2 : Int32)), q1.2))) rfl (fun _ => rfl) (kR _ _)
    · refine dw_g rfl ?_
      refine dg_s (pc' := 10) [.int (-1 : Int32)] rfl (fun _ => rfl) rfl ?_
      exact dw_r (some (.inl (some (.int (-1 : Int32)), m))) rfl (fun _ => rfl) (kR _ _)
noncomputable def H_X9_back : dc_H := fun As m k => match As with
  | [.ref x0, .int x1] => (d_X9_back x0 x1 m).bind (fun q => k (some (.int q.1)) q.2)
  | _ => dc_kz
theorem H_X9_back_ok {u : Nat} : dc_cok u 112 H_X9_back := fun M' hG N As m k P hz hP => by
  obtain rfl : ab_M_X9_back = M' := Option.some.inj hG
  unfold H_X9_back at hP
  split at hP
  · rename_i x0 x1
    exact dc_pv.imp (k_X9_back (Φ := fun (t : Option (Int32 × dc_M)) r m' => P (t.bind (fun q => k (some (.int q.1)) q.2)) → P (k r m')) x0 x1 m (fun _ _ h => h) rfl rfl) (fun r m' h => h hP)
  · exact absurd hP hz
noncomputable def C_X10_layBacks : List (Nat × dc_H) := [(179, H_X10_excited)]
theorem CO_X10_layBacks {u : Nat} : dc_CO u C_X10_layBacks := dc_CO_cons H_X10_excited_ok (dc_CO_nil)
def S_X10_layBacks : List (Nat × List Nat) := [(25, [0, 1]), (35, [0, 1, 2]), (82, [0, 1, 2, 3, 4]), (166, [0, 1, 2, 3, 4]), (185, [0, 1, 2, 3, 4])]
noncomputable def d_X10_layBacks_b185 (x0 : Nat) (x1 : Int32) (x2 : Int32) (x3 : Int32) (x4 : Int32) (s0 : Int32) (s1 : Nat) (m : dc_M) : Option ((Int32 × dc_M) ⊕ ((Int32 × dc_M) ⊕ ((Int32 × dc_M) ⊕ dc_M))) :=
  (if ¬ (Int32.toInt ((dc_wi m s1 45 s0).1 x0 43)) = 0 then some (Sum.inl ((x4 + (1 : Int32)), (dc_wi (dc_wi (dc_wi m s1 45 s0) x0 46 ((dc_wi m s1 45 s0).1 x0 46)) x0 43 (((dc_wi (dc_wi m s1 45 s0) x0 46 ((dc_wi m s1 45 s0).1 x0 46)).1 x0 43) + (1 : Int32))))) else some (Sum.inl ((x4 + (1 : Int32)), (dc_wi (dc_wi (dc_wi m s1 45 s0) x0 46 x4) x0 43 (((dc_wi (dc_wi m s1 45 s0) x0 46 x4).1 x0 43) + (1 : Int32))))))
set_option maxHeartbeats 8000000 in
theorem k_X10_layBacks_b185 {u : Nat} {N : Nat} {Φ : (Option ((Int32 × dc_M) ⊕ ((Int32 × dc_M) ⊕ ((Int32 × dc_M) ⊕ dc_M)))) → Option Value → dc_M → Prop} (x0 : Nat) (x1 : Int32) (x2 : Int32) (x3 : Int32) (x4 : Int32) (s0 : Int32) (s1 : Nat) (m : dc_M) (kR : ∀  (m : dc_M), Φ (some (Sum.inr (Sum.inr (Sum.inr (m))))) (none) m) (k82 : ∀ (x4 : Int32) (m : dc_M) (lv : ab_L), ab_lk lv 0 = some (.ref x0) → ab_lk lv 1 = some (.int x1) → ab_lk lv 2 = some (.int x2) → ab_lk lv 3 = some (.int x3) → ab_lk lv 4 = some (.int x4) →  dc_pv u N ab_M_X10_layBacks 82 lv [] m (Φ (some (Sum.inl (x4, m))))) (k35 : ∀ (x2 : Int32) (m : dc_M) (lv : ab_L), ab_lk lv 0 = some (.ref x0) → ab_lk lv 1 = some (.int x1) → ab_lk lv 2 = some (.int x2) →  dc_pv u N ab_M_X10_layBacks 35 lv [] m (Φ (some (Sum.inr (Sum.inl (x2, m)))))) (k25 : ∀ (x1 : Int32) (m : dc_M) (lv : ab_L), ab_lk lv 0 = some (.ref x0) → ab_lk lv 1 = some (.int x1) →  dc_pv u N ab_M_X10_layBacks 25 lv [] m (Φ (some (Sum.inr (Sum.inr (Sum.inl (x1, m))))))) {lv : ab_L} (f0 : ab_lk lv 0 = some (.ref x0)) (f1 : ab_lk lv 1 = some (.int x1)) (f2 : ab_lk lv 2 = some (.int x2)) (f3 : ab_lk lv 3 = some (.int x3)) (f4 : ab_lk lv 4 = some (.int x4)) : dc_pv u N ab_M_X10_layBacks 185 lv [.int s0, .ref s1] m (Φ (d_X10_layBacks_b185 x0 x1 x2 x3 x4 s0 s1 m)) := by
  refine dc_pv.mono (dc_ok (C := C_X10_layBacks) (S := S_X10_layBacks) CO_X10_layBacks 400 185 [(0, .ref x0), (1, .int x1), (2, .int x2), (3, .int x3), (4, .int x4)] lv [.int s0, .ref s1] m (dc_sub_cons f0 (dc_sub_cons f1 (dc_sub_cons f2 (dc_sub_cons f3 (dc_sub_cons f4 (dc_sub_nil)))))) ?_) (Nat.le_succ N)
  unfold d_X10_layBacks_b185
  refine dg_m (pc' := 188) (dc_wi m s1 45 s0) [] rfl (fun _ => rfl) rfl ?_
  refine dg_s (pc' := 189) [.ref x0] rfl (fun _ => rfl) rfl ?_
  refine dg_s (pc' := 190) [.ref x0, .ref x0] rfl (fun _ => rfl) rfl ?_
  refine dg_s (pc' := 193) [.int ((dc_wi m s1 45 s0).1 x0 43), .ref x0] rfl (fun _ => rfl) rfl ?_
  refine dw_if (fun t => Φ t) (¬ (Int32.toInt ((dc_wi m s1 45 s0).1 x0 43)) = 0) [.ref x0] 201 196 rfl (fun _ => rfl) (fun c0 => ?_) (fun c0 => ?_)
  · refine dw_g rfl ?_
    refine dg_s (pc' := 202) [.ref x0, .ref x0] rfl (fun _ => rfl) rfl ?_
    refine dg_s (pc' := 205) [.int ((dc_wi m s1 45 s0).1 x0 46), .ref x0] rfl (fun _ => rfl) rfl ?_
    refine dg_m (pc' := 208) (dc_wi (dc_wi m s1 45 s0) x0 46 ((dc_wi m s1 45 s0).1 x0 46)) [] rfl (fun _ => rfl) rfl ?_
    refine dg_s (pc' := 209) [.ref x0] rfl (fun _ => rfl) rfl ?_
    refine dg_s (pc' := 210) [.ref x0, .ref x0] rfl (fun _ => rfl) rfl ?_
    refine dg_s (pc' := 213) [.int ((dc_wi (dc_wi m s1 45 s0) x0 46 ((dc_wi m s1 45 s0).1 x0 46)).1 x0 43), .ref x0] rfl (fun _ => rfl) rfl ?_
    refine dg_s (pc' := 214) [.int (1 : Int32), .int ((dc_wi (dc_wi m s1 45 s0) x0 46 ((dc_wi m s1 45 s0).1 x0 46)).1 x0 43), .ref x0] rfl (fun _ => rfl) rfl ?_
    refine dg_s (pc' := 215) [.int (((dc_wi (dc_wi m s1 45 s0) x0 46 ((dc_wi m s1 45 s0).1 x0 46)).1 x0 43) + (1 : Int32)), .ref x0] rfl (fun _ => rfl) rfl ?_
    refine dg_m (pc' := 218) (dc_wi (dc_wi (dc_wi m s1 45 s0) x0 46 ((dc_wi m s1 45 s0).1 x0 46)) x0 43 (((dc_wi (dc_wi m s1 45 s0) x0 46 ((dc_wi m s1 45 s0).1 x0 46)).1 x0 43) + (1 : Int32))) [] rfl (fun _ => rfl) rfl ?_
    refine dg_L (pc' := 221) [(4, .int (x4 + (1 : Int32))), (0, .ref x0), (1, .int x1), (2, .int x2), (3, .int x3)] [] rfl (fun _ => rfl) rfl ?_
    refine dw_s (pc' := 82) [] rfl (fun _ => rfl) ?_
    exact dw_j rfl (fun lv1 hv => k82 (x4 + (1 : Int32)) (dc_wi (dc_wi (dc_wi m s1 45 s0) x0 46 ((dc_wi m s1 45 s0).1 x0 46)) x0 43 (((dc_wi (dc_wi m s1 45 s0) x0 46 ((dc_wi m s1 45 s0).1 x0 46)).1 x0 43) + (1 : Int32))) lv1 (hv.1 _ rfl) (hv.2.1 _ rfl) (hv.2.2.1 _ rfl) (hv.2.2.2.1 _ rfl) (hv.2.2.2.2.1 _ rfl))
  · refine dw_g rfl ?_
    refine dg_s (pc' := 198) [.int x4, .ref x0] rfl (fun _ => rfl) rfl ?_
    refine dg_s (pc' := 205) [.int x4, .ref x0] rfl (fun _ => rfl) rfl ?_
    refine dg_m (pc' := 208) (dc_wi (dc_wi m s1 45 s0) x0 46 x4) [] rfl (fun _ => rfl) rfl ?_
    refine dg_s (pc' := 209) [.ref x0] rfl (fun _ => rfl) rfl ?_
    refine dg_s (pc' := 210) [.ref x0, .ref x0] rfl (fun _ => rfl) rfl ?_
    refine dg_s (pc' := 213) [.int ((dc_wi (dc_wi m s1 45 s0) x0 46 x4).1 x0 43), .ref x0] rfl (fun _ => rfl) rfl ?_
    refine dg_s (pc' := 214) [.int (1 : Int32), .int ((dc_wi (dc_wi m s1 45 s0) x0 46 x4).1 x0 43), .ref x0] rfl (fun _ => rfl) rfl ?_
    refine dg_s (pc' := 215) [.int (((dc_wi (dc_wi m s1 45 s0) x0 46 x4).1 x0 43) + (1 : Int32)), .ref x0] rfl (fun _ => rfl) rfl ?_
    refine dg_m (pc' := 218) (dc_wi (dc_wi (dc_wi m s1 45 s0) x0 46 x4) x0 43 (((dc_wi (dc_wi m s1 45 s0) x0 46 x4).1 x0 43) + (1 : Int32))) [] rfl (fun _ => rfl) rfl ?_
    refine dg_L (pc' := 221) [(4, .int (x4 + (1 : Int32))), (0, .ref x0), (1, .int x1), (2, .int x2), (3, .int x3)] [] rfl (fun _ => rfl) rfl ?_
    refine dw_s (pc' := 82) [] rfl (fun _ => rfl) ?_
    exact dw_j rfl (fun lv1 hv => k82 (x4 + (1 : Int32)) (dc_wi (dc_wi (dc_wi m s1 45 s0) x0 46 x4) x0 43 (((dc_wi (dc_wi m s1 45 s0) x0 46 x4).1 x0 43) + (1 : Int32))) lv1 (hv.1 _ rfl) (hv.2.1 _ rfl) (hv.2.2.1 _ rfl) (hv.2.2.2.1 _ rfl) (hv.2.2.2.2.1 _ rfl))
noncomputable def d_X10_layBacks_b166 (x0 : Nat) (x1 : Int32) (x2 : Int32) (x3 : Int32) (x4 : Int32) (s0 : Int32) (s1 : Nat) (m : dc_M) : Option ((Int32 × dc_M) ⊕ ((Int32 × dc_M) ⊕ ((Int32 × dc_M) ⊕ dc_M))) :=
  (if ¬ (Int32.toInt ((dc_wi m s1 44 s0).1 x0 43)) = 0 then (d_X10_layBacks_b185 x0 x1 x2 x3 x4 ((dc_wi m s1 44 s0).1 x0 45) x0 (dc_wi m s1 44 s0)) else (d_X10_layBacks_b185 x0 x1 x2 x3 x4 x2 x0 (dc_wi m s1 44 s0)))
set_option maxHeartbeats 8000000 in
theorem k_X10_layBacks_b166 {u : Nat} {N : Nat} {Φ : (Option ((Int32 × dc_M) ⊕ ((Int32 × dc_M) ⊕ ((Int32 × dc_M) ⊕ dc_M)))) → Option Value → dc_M → Prop} (x0 : Nat) (x1 : Int32) (x2 : Int32) (x3 : Int32) (x4 : Int32) (s0 : Int32) (s1 : Nat) (m : dc_M) (kR : ∀  (m : dc_M), Φ (some (Sum.inr (Sum.inr (Sum.inr (m))))) (none) m) (k82 : ∀ (x4 : Int32) (m : dc_M) (lv : ab_L), ab_lk lv 0 = some (.ref x0) → ab_lk lv 1 = some (.int x1) → ab_lk lv 2 = some (.int x2) → ab_lk lv 3 = some (.int x3) → ab_lk lv 4 = some (.int x4) →  dc_pv u N ab_M_X10_layBacks 82 lv [] m (Φ (some (Sum.inl (x4, m))))) (k35 : ∀ (x2 : Int32) (m : dc_M) (lv : ab_L), ab_lk lv 0 = some (.ref x0) → ab_lk lv 1 = some (.int x1) → ab_lk lv 2 = some (.int x2) →  dc_pv u N ab_M_X10_layBacks 35 lv [] m (Φ (some (Sum.inr (Sum.inl (x2, m)))))) (k25 : ∀ (x1 : Int32) (m : dc_M) (lv : ab_L), ab_lk lv 0 = some (.ref x0) → ab_lk lv 1 = some (.int x1) →  dc_pv u N ab_M_X10_layBacks 25 lv [] m (Φ (some (Sum.inr (Sum.inr (Sum.inl (x1, m))))))) {lv : ab_L} (f0 : ab_lk lv 0 = some (.ref x0)) (f1 : ab_lk lv 1 = some (.int x1)) (f2 : ab_lk lv 2 = some (.int x2)) (f3 : ab_lk lv 3 = some (.int x3)) (f4 : ab_lk lv 4 = some (.int x4)) : dc_pv u N ab_M_X10_layBacks 166 lv [.int s0, .ref s1] m (Φ (d_X10_layBacks_b166 x0 x1 x2 x3 x4 s0 s1 m)) := by
  refine dc_pv.mono (dc_ok (C := C_X10_layBacks) (S := S_X10_layBacks) CO_X10_layBacks 400 166 [(0, .ref x0), (1, .int x1), (2, .int x2), (3, .int x3), (4, .int x4)] lv [.int s0, .ref s1] m (dc_sub_cons f0 (dc_sub_cons f1 (dc_sub_cons f2 (dc_sub_cons f3 (dc_sub_cons f4 (dc_sub_nil)))))) ?_) (Nat.le_succ N)
  unfold d_X10_layBacks_b166
  refine dg_m (pc' := 169) (dc_wi m s1 44 s0) [] rfl (fun _ => rfl) rfl ?_
  refine dg_s (pc' := 170) [.ref x0] rfl (fun _ => rfl) rfl ?_
  refine dg_s (pc' := 171) [.ref x0, .ref x0] rfl (fun _ => rfl) rfl ?_
  refine dg_s (pc' := 174) [.int ((dc_wi m s1 44 s0).1 x0 43), .ref x0] rfl (fun _ => rfl) rfl ?_
  refine dw_if (fun t => Φ t) (¬ (Int32.toInt ((dc_wi m s1 44 s0).1 x0 43)) = 0) [.ref x0] 181 177 rfl (fun _ => rfl) (fun c0 => ?_) (fun c0 => ?_)
  · refine dw_g rfl ?_
    refine dg_s (pc' := 182) [.ref x0, .ref x0] rfl (fun _ => rfl) rfl ?_
    refine dw_s (pc' := 185) [.int ((dc_wi m s1 44 s0).1 x0 45), .ref x0] rfl (fun _ => rfl) ?_
    exact dw_j rfl (fun lv1 hv => k_X10_layBacks_b185 (Φ := (fun t => Φ t)) x0 x1 x2 x3 x4 ((dc_wi m s1 44 s0).1 x0 45) x0 (dc_wi m s1 44 s0) (fun _b => kR _b) k82 k35 k25 (hv.1 _ rfl) (hv.2.1 _ rfl) (hv.2.2.1 _ rfl) (hv.2.2.2.1 _ rfl) (hv.2.2.2.2.1 _ rfl))
  · refine dw_g rfl ?_
    refine dg_s (pc' := 178) [.int x2, .ref x0] rfl (fun _ => rfl) rfl ?_
    refine dw_s (pc' := 185) [.int x2, .ref x0] rfl (fun _ => rfl) ?_
    exact dw_j rfl (fun lv1 hv => k_X10_layBacks_b185 (Φ := (fun t => Φ t)) x0 x1 x2 x3 x4 x2 x0 (dc_wi m s1 44 s0) (fun _b => kR _b) k82 k35 k25 (hv.1 _ rfl) (hv.2.1 _ rfl) (hv.2.2.1 _ rfl) (hv.2.2.2.1 _ rfl) (hv.2.2.2.2.1 _ rfl))
noncomputable def d_X10_layBacks_l82b (x0 : Nat) (x1 : Int32) (x2 : Int32) (x3 : Int32) (x4 : Int32) (m : dc_M) : Option ((Int32 × dc_M) ⊕ ((Int32 × dc_M) ⊕ ((Int32 × dc_M) ⊕ dc_M))) :=
  (if (Int32.toInt (m.1 x0 3)) ≤ (Int32.toInt x4) then some (Sum.inr (Sum.inl ((x2 + (1 : Int32)), m))) else (if (Int32.toInt x3) = 0 then some (Sum.inr (Sum.inl ((x2 + (1 : Int32)), m))) else (if (Int32.toInt (m.1 (x0 + 18) (Int32.toNatClampNeg (((16 : Int32) * x1) + x4)))) = (-4) then some (Sum.inl ((x4 + (1 : Int32)), m)) else (if (Int32.toInt (m.1 (x0 + 3) (Int32.toNatClampNeg x4))) = (Int32.toInt (m.1 (x0 + 3) (Int32.toNatClampNeg x2))) then some (Sum.inl ((x4 + (1 : Int32)), m)) else ((d_X10_excited x0 (m.1 (x0 + 18) (Int32.toNatClampNeg (((16 : Int32) * x1) + x4))) m).bind (fun q1 => (if ¬ (Int32.toInt ((q1 >>> ((m.1 (x0 + 3) (Int32.toNatClampNeg x2)) &&& 31)) &&& (1 : Int32))) = 0 then some (Sum.inl ((x4 + (1 : Int32)), m)) else (if ¬ (Int32.toInt (m.1 x0 43)) = 0 then (d_X10_layBacks_b166 x0 x1 x2 x3 x4 (m.1 x0 44) x0 m) else (d_X10_layBacks_b166 x0 x1 x2 x3 x4 x1 x0 m)))))))))
noncomputable def d_X10_layBacks_l82s (x0 : Nat) (x1 : Int32) (x2 : Int32) (x3 : Int32) : (Int32 × dc_M) → Option ((Int32 × dc_M) ⊕ ((Int32 × dc_M) ⊕ ((Int32 × dc_M) ⊕ dc_M))) := fun s => d_X10_layBacks_l82b x0 x1 x2 x3 s.1 s.2
noncomputable def d_X10_layBacks_l82 (x0 : Nat) (x1 : Int32) (x2 : Int32) (x3 : Int32) (x4 : Int32) (m : dc_M) : Option ((Int32 × dc_M) ⊕ ((Int32 × dc_M) ⊕ dc_M)) := dc_lp (d_X10_layBacks_l82s x0 x1 x2 x3) (x4, m)
set_option maxHeartbeats 8000000 in
theorem k_X10_layBacks_l82 {u : Nat} {Φ : (Option ((Int32 × dc_M) ⊕ ((Int32 × dc_M) ⊕ dc_M))) → Option Value → dc_M → Prop} (x0 : Nat) (x1 : Int32) (x2 : Int32) (x3 : Int32) (kR : ∀  (m : dc_M), Φ (some (Sum.inr (Sum.inr (m)))) (none) m) : ∀ (N : Nat), (∀ (x2 : Int32) (m : dc_M) (lv : ab_L), ab_lk lv 0 = some (.ref x0) → ab_lk lv 1 = some (.int x1) → ab_lk lv 2 = some (.int x2) →  dc_pv u N ab_M_X10_layBacks 35 lv [] m (Φ (some (Sum.inl (x2, m))))) → (∀ (x1 : Int32) (m : dc_M) (lv : ab_L), ab_lk lv 0 = some (.ref x0) → ab_lk lv 1 = some (.int x1) →  dc_pv u N ab_M_X10_layBacks 25 lv [] m (Φ (some (Sum.inr (Sum.inl (x1, m)))))) → ∀ (x4 : Int32) (m : dc_M) (lv : ab_L), ab_lk lv 0 = some (.ref x0) → ab_lk lv 1 = some (.int x1) → ab_lk lv 2 = some (.int x2) → ab_lk lv 3 = some (.int x3) → ab_lk lv 4 = some (.int x4) → dc_pv u N ab_M_X10_layBacks 82 lv [] m (Φ (d_X10_layBacks_l82 x0 x1 x2 x3 x4 m)) := by
  intro N
  induction N with
  | zero => intros; exact dc_pv_zero
  | succ N ih =>
    intro k35 k25 x4 m lv f0 f1 f2 f3 f4
    have k35 := fun a0 a1 a2 a3 a4 a5 => (k35 a0 a1 a2 a3 a4 a5).mono (Nat.le_succ N)
    have k25 := fun a0 a1 a2 a3 a4 => (k25 a0 a1 a2 a3 a4).mono (Nat.le_succ N)
    have ih := ih k35 k25
    refine dc_ok (C := C_X10_layBacks) (S := S_X10_layBacks) CO_X10_layBacks 400 82 [(0, .ref x0), (1, .int x1), (2, .int x2), (3, .int x3), (4, .int x4)] lv [] m (dc_sub_cons f0 (dc_sub_cons f1 (dc_sub_cons f2 (dc_sub_cons f3 (dc_sub_cons f4 (dc_sub_nil)))))) ?_
    unfold d_X10_layBacks_l82
    rw [dc_lp_eq]
    show (fun t x => dc_lf u N ab_M_X10_layBacks (Φ (Option.bind t (dc_bk (d_X10_layBacks_l82s x0 x1 x2 x3)))) x) (d_X10_layBacks_l82b x0 x1 x2 x3 x4 m) _
    dsimp only
    unfold d_X10_layBacks_l82b
    refine dg_s (pc' := 84) [.int x4] rfl (fun _ => rfl) rfl ?_
    refine dg_s (pc' := 85) [.ref x0, .int x4] rfl (fun _ => rfl) rfl ?_
    refine dg_s (pc' := 88) [.int (m.1 x0 3), .int x4] rfl (fun _ => rfl) rfl ?_
    refine dw_if (fun t => Φ (Option.bind t (dc_bk (d_X10_layBacks_l82s x0 x1 x2 x3)))) ((Int32.toInt (m.1 x0 3)) ≤ (Int32.toInt x4)) [] 224 91 rfl (fun _ => rfl) (fun c0 => ?_) (fun c0 => ?_)
    · refine dw_g rfl ?_
      refine dg_L (pc' := 227) [(2, .int (x2 + (1 : Int32))), (0, .ref x0), (1, .int x1), (3, .int x3), (4, .int x4)] [] rfl (fun _ => rfl) rfl ?_
      refine dw_s (pc' := 35) [] rfl (fun _ => rfl) ?_
      exact dw_j rfl (fun lv1 hv => k35 (x2 + (1 : Int32)) m lv1 (hv.1 _ rfl) (hv.2.1 _ rfl) (hv.2.2.1 _ rfl))
    · refine dw_g rfl ?_
      refine dg_s (pc' := 92) [.int x3] rfl (fun _ => rfl) rfl ?_
      refine dw_if (fun t => Φ (Option.bind t (dc_bk (d_X10_layBacks_l82s x0 x1 x2 x3)))) ((Int32.toInt x3) = 0) [] 224 95 rfl (fun _ => rfl) (fun c1 => ?_) (fun c1 => ?_)
      · refine dw_g rfl ?_
        refine dg_L (pc' := 227) [(2, .int (x2 + (1 : Int32))), (0, .ref x0), (1, .int x1), (3, .int x3), (4, .int x4)] [] rfl (fun _ => rfl) rfl ?_
        refine dw_s (pc' := 35) [] rfl (fun _ => rfl) ?_
        exact dw_j rfl (fun lv1 hv => k35 (x2 + (1 : Int32)) m lv1 (hv.1 _ rfl) (hv.2.1 _ rfl) (hv.2.2.1 _ rfl))
      · refine dw_g rfl ?_
        refine dg_s (pc' := 96) [.ref x0] rfl (fun _ => rfl) rfl ?_
        refine dg_s (pc' := 99) [.ref (x0 + 18)] rfl (fun _ => rfl) rfl ?_
        refine dg_s (pc' := 101) [.int (16 : Int32), .ref (x0 + 18)] rfl (fun _ => rfl) rfl ?_
        refine dg_s (pc' := 102) [.int x1, .int (16 : Int32), .ref (x0 + 18)] rfl (fun _ => rfl) rfl ?_
        refine dg_s (pc' := 103) [.int ((16 : Int32) * x1), .ref (x0 + 18)] rfl (fun _ => rfl) rfl ?_
        refine dg_s (pc' := 105) [.int x4, .int ((16 : Int32) * x1), .ref (x0 + 18)] rfl (fun _ => rfl) rfl ?_
        refine dg_s (pc' := 106) [.int (((16 : Int32) * x1) + x4), .ref (x0 + 18)] rfl (fun _ => rfl) rfl ?_
        refine dg_s (pc' := 107) [.int (m.1 (x0 + 18) (Int32.toNatClampNeg (((16 : Int32) * x1) + x4)))] rfl (fun _ => rfl) rfl ?_
        refine dg_L (pc' := 109) [(5, .int (m.1 (x0 + 18) (Int32.toNatClampNeg (((16 : Int32) * x1) + x4)))), (0, .ref x0), (1, .int x1), (2, .int x2), (3, .int x3), (4, .int x4)] [] rfl (fun _ => rfl) rfl ?_
        refine dg_s (pc' := 111) [.int (m.1 (x0 + 18) (Int32.toNatClampNeg (((16 : Int32) * x1) + x4)))] rfl (fun _ => rfl) rfl ?_
        refine dg_s (pc' := 113) [.int (-4 : Int32), .int (m.1 (x0 + 18) (Int32.toNatClampNeg (((16 : Int32) * x1) + x4)))] rfl (fun _ => rfl) rfl ?_
        refine dw_if (fun t => Φ (Option.bind t (dc_bk (d_X10_layBacks_l82s x0 x1 x2 x3)))) ((Int32.toInt (m.1 (x0 + 18) (Int32.toNatClampNeg (((16 : Int32) * x1) + x4)))) = (-4)) [] 218 116 rfl (fun _ => rfl) (fun c2 => ?_) (fun c2 => ?_)
        · refine dw_g rfl ?_
          refine dg_L (pc' := 221) [(4, .int (x4 + (1 : Int32))), (5, .int (m.1 (x0 + 18) (Int32.toNatClampNeg (((16 : Int32) * x1) + x4)))), (0, .ref x0), (1, .int x1), (2, .int x2), (3, .int x3)] [] rfl (fun _ => rfl) rfl ?_
          refine dw_s (pc' := 82) [] rfl (fun _ => rfl) ?_
          exact dw_j rfl (fun lv1 hv => ih (x4 + (1 : Int32)) m lv1 (hv.1 _ rfl) (hv.2.1 _ rfl) (hv.2.2.1 _ rfl) (hv.2.2.2.1 _ rfl) (hv.2.2.2.2.1 _ rfl))
        · refine dw_g rfl ?_
          refine dg_s (pc' := 117) [.ref x0] rfl (fun _ => rfl) rfl ?_
          refine dg_s (pc' := 120) [.ref (x0 + 3)] rfl (fun _ => rfl) rfl ?_
          refine dg_s (pc' := 122) [.int x4, .ref (x0 + 3)] rfl (fun _ => rfl) rfl ?_
          refine dg_s (pc' := 123) [.int (m.1 (x0 + 3) (Int32.toNatClampNeg x4))] rfl (fun _ => rfl) rfl ?_
          refine dg_s (pc' := 124) [.ref x0, .int (m.1 (x0 + 3) (Int32.toNatClampNeg x4))] rfl (fun _ => rfl) rfl ?_
          refine dg_s (pc' := 127) [.ref (x0 + 3), .int (m.1 (x0 + 3) (Int32.toNatClampNeg x4))] rfl (fun _ => rfl) rfl ?_
          refine dg_s (pc' := 128) [.int x2, .ref (x0 + 3), .int (m.1 (x0 + 3) (Int32.toNatClampNeg x4))] rfl (fun _ => rfl) rfl ?_
          refine dg_s (pc' := 129) [.int (m.1 (x0 + 3) (Int32.toNatClampNeg x2)), .int (m.1 (x0 + 3) (Int32.toNatClampNeg x4))] rfl (fun _ => rfl) rfl ?_
          refine dw_if (fun t => Φ (Option.bind t (dc_bk (d_X10_layBacks_l82s x0 x1 x2 x3)))) ((Int32.toInt (m.1 (x0 + 3) (Int32.toNatClampNeg x4))) = (Int32.toInt (m.1 (x0 + 3) (Int32.toNatClampNeg x2)))) [] 218 132 rfl (fun _ => rfl) (fun c3 => ?_) (fun c3 => ?_)
          · refine dw_g rfl ?_
            refine dg_L (pc' := 221) [(4, .int (x4 + (1 : Int32))), (5, .int (m.1 (x0 + 18) (Int32.toNatClampNeg (((16 : Int32) * x1) + x4)))), (0, .ref x0), (1, .int x1), (2, .int x2), (3, .int x3)] [] rfl (fun _ => rfl) rfl ?_
            refine dw_s (pc' := 82) [] rfl (fun _ => rfl) ?_
            exact dw_j rfl (fun lv1 hv => ih (x4 + (1 : Int32)) m lv1 (hv.1 _ rfl) (hv.2.1 _ rfl) (hv.2.2.1 _ rfl) (hv.2.2.2.1 _ rfl) (hv.2.2.2.2.1 _ rfl))
          · refine dw_g rfl ?_
            refine dg_s (pc' := 133) [.ref x0] rfl (fun _ => rfl) rfl ?_
            refine dg_s (pc' := 135) [.int (m.1 (x0 + 18) (Int32.toNatClampNeg (((16 : Int32) * x1) + x4))), .ref x0] rfl (fun _ => rfl) rfl ?_
            refine dw_b (fun t => Φ (Option.bind t (dc_bk (d_X10_layBacks_l82s x0 x1 x2 x3)))) (pc' := 138) (fun q1 => [.int q1]) (fun q1 => m) rfl (fun _ => rfl) (fun q1 => ?_)
            refine dw_g rfl ?_
            refine dg_s (pc' := 139) [.ref x0, .int q1] rfl (fun _ => rfl) rfl ?_
            refine dg_s (pc' := 142) [.ref (x0 + 3), .int q1] rfl (fun _ => rfl) rfl ?_
            refine dg_s (pc' := 143) [.int x2, .ref (x0 + 3), .int q1] rfl (fun _ => rfl) rfl ?_
            refine dg_s (pc' := 144) [.int (m.1 (x0 + 3) (Int32.toNatClampNeg x2)), .int q1] rfl (fun _ => rfl) rfl ?_
            refine dg_s (pc' := 145) [.int (q1 >>> ((m.1 (x0 + 3) (Int32.toNatClampNeg x2)) &&& 31))] rfl (fun _ => rfl) rfl ?_
            refine dg_s (pc' := 146) [.int (1 : Int32), .int (q1 >>> ((m.1 (x0 + 3) (Int32.toNatClampNeg x2)) &&& 31))] rfl (fun _ => rfl) rfl ?_
            refine dg_s (pc' := 147) [.int ((q1 >>> ((m.1 (x0 + 3) (Int32.toNatClampNeg x2)) &&& 31)) &&& (1 : Int32))] rfl (fun _ => rfl) rfl ?_
            refine dw_if (fun t => Φ (Option.bind t (dc_bk (d_X10_layBacks_l82s x0 x1 x2 x3)))) (¬ (Int32.toInt ((q1 >>> ((m.1 (x0 + 3) (Int32.toNatClampNeg x2)) &&& 31)) &&& (1 : Int32))) = 0) [] 218 150 rfl (fun _ => rfl) (fun c4 => ?_) (fun c4 => ?_)
            · refine dw_g rfl ?_
              refine dg_L (pc' := 221) [(4, .int (x4 + (1 : Int32))), (5, .int (m.1 (x0 + 18) (Int32.toNatClampNeg (((16 : Int32) * x1) + x4)))), (0, .ref x0), (1, .int x1), (2, .int x2), (3, .int x3)] [] rfl (fun _ => rfl) rfl ?_
              refine dw_s (pc' := 82) [] rfl (fun _ => rfl) ?_
              exact dw_j rfl (fun lv1 hv => ih (x4 + (1 : Int32)) m lv1 (hv.1 _ rfl) (hv.2.1 _ rfl) (hv.2.2.1 _ rfl) (hv.2.2.2.1 _ rfl) (hv.2.2.2.2.1 _ rfl))
            · refine dw_g rfl ?_
              refine dg_s (pc' := 151) [.ref x0] rfl (fun _ => rfl) rfl ?_
              refine dg_s (pc' := 152) [.ref x0, .ref x0] rfl (fun _ => rfl) rfl ?_
              refine dg_s (pc' := 155) [.int (m.1 x0 43), .ref x0] rfl (fun _ => rfl) rfl ?_
              refine dw_if (fun t => Φ (Option.bind t (dc_bk (d_X10_layBacks_l82s x0 x1 x2 x3)))) (¬ (Int32.toInt (m.1 x0 43)) = 0) [.ref x0] 162 158 rfl (fun _ => rfl) (fun c5 => ?_) (fun c5 => ?_)
              · refine dw_g rfl ?_
                refine dg_s (pc' := 163) [.ref x0, .ref x0] rfl (fun _ => rfl) rfl ?_
                refine dw_s (pc' := 166) [.int (m.1 x0 44), .ref x0] rfl (fun _ => rfl) ?_
                exact dw_j rfl (fun lv1 hv => k_X10_layBacks_b166 (Φ := (fun t => Φ (Option.bind t (dc_bk (d_X10_layBacks_l82s x0 x1 x2 x3))))) x0 x1 x2 x3 x4 (m.1 x0 44) x0 m (fun _b => kR _b) ih k35 k25 (hv.1 _ rfl) (hv.2.1 _ rfl) (hv.2.2.1 _ rfl) (hv.2.2.2.1 _ rfl) (hv.2.2.2.2.1 _ rfl))
              · refine dw_g rfl ?_
                refine dg_s (pc' := 159) [.int x1, .ref x0] rfl (fun _ => rfl) rfl ?_
                refine dw_s (pc' := 166) [.int x1, .ref x0] rfl (fun _ => rfl) ?_
                exact dw_j rfl (fun lv1 hv => k_X10_layBacks_b166 (Φ := (fun t => Φ (Option.bind t (dc_bk (d_X10_layBacks_l82s x0 x1 x2 x3))))) x0 x1 x2 x3 x4 x1 x0 m (fun _b => kR _b) ih k35 k25 (hv.1 _ rfl) (hv.2.1 _ rfl) (hv.2.2.1 _ rfl) (hv.2.2.2.1 _ rfl) (hv.2.2.2.2.1 _ rfl))
noncomputable def d_X10_layBacks_l35b (x0 : Nat) (x1 : Int32) (x2 : Int32) (m : dc_M) : Option ((Int32 × dc_M) ⊕ ((Int32 × dc_M) ⊕ dc_M)) :=
  (if (Int32.toInt (m.1 x0 3)) ≤ (Int32.toInt x2) then some (Sum.inr (Sum.inl ((x1 + (1 : Int32)), m))) else (if (Int32.toInt (m.1 (x0 + 18) (Int32.toNatClampNeg (((16 : Int32) * x1) + x2)))) = (-4) then (d_X10_layBacks_l82 x0 x1 x2 (0 : Int32) (0 : Int32) m) else (if (Int32.toInt (m.1 (x0 + 2) (Int32.toNatClampNeg (m.1 (x0 + 3) (Int32.toNatClampNeg x2))))) ≤ 0 then (d_X10_layBacks_l82 x0 x1 x2 (0 : Int32) (0 : Int32) m) else (d_X10_layBacks_l82 x0 x1 x2 (1 : Int32) (0 : Int32) m))))
noncomputable def d_X10_layBacks_l35s (x0 : Nat) (x1 : Int32) : (Int32 × dc_M) → Option ((Int32 × dc_M) ⊕ ((Int32 × dc_M) ⊕ dc_M)) := fun s => d_X10_layBacks_l35b x0 x1 s.1 s.2
noncomputable def d_X10_layBacks_l35 (x0 : Nat) (x1 : Int32) (x2 : Int32) (m : dc_M) : Option ((Int32 × dc_M) ⊕ dc_M) := dc_lp (d_X10_layBacks_l35s x0 x1) (x2, m)
set_option maxHeartbeats 8000000 in
theorem k_X10_layBacks_l35 {u : Nat} {Φ : (Option ((Int32 × dc_M) ⊕ dc_M)) → Option Value → dc_M → Prop} (x0 : Nat) (x1 : Int32) (kR : ∀  (m : dc_M), Φ (some (Sum.inr (m))) (none) m) : ∀ (N : Nat), (∀ (x1 : Int32) (m : dc_M) (lv : ab_L), ab_lk lv 0 = some (.ref x0) → ab_lk lv 1 = some (.int x1) →  dc_pv u N ab_M_X10_layBacks 25 lv [] m (Φ (some (Sum.inl (x1, m))))) → ∀ (x2 : Int32) (m : dc_M) (lv : ab_L), ab_lk lv 0 = some (.ref x0) → ab_lk lv 1 = some (.int x1) → ab_lk lv 2 = some (.int x2) → dc_pv u N ab_M_X10_layBacks 35 lv [] m (Φ (d_X10_layBacks_l35 x0 x1 x2 m)) := by
  intro N
  induction N with
  | zero => intros; exact dc_pv_zero
  | succ N ih =>
    intro k25 x2 m lv f0 f1 f2
    have k25 := fun a0 a1 a2 a3 a4 => (k25 a0 a1 a2 a3 a4).mono (Nat.le_succ N)
    have ih := ih k25
    refine dc_ok (C := C_X10_layBacks) (S := S_X10_layBacks) CO_X10_layBacks 400 35 [(0, .ref x0), (1, .int x1), (2, .int x2)] lv [] m (dc_sub_cons f0 (dc_sub_cons f1 (dc_sub_cons f2 (dc_sub_nil)))) ?_
    unfold d_X10_layBacks_l35
    rw [dc_lp_eq]
    show (fun t x => dc_lf u N ab_M_X10_layBacks (Φ (Option.bind t (dc_bk (d_X10_layBacks_l35s x0 x1)))) x) (d_X10_layBacks_l35b x0 x1 x2 m) _
    dsimp only
    unfold d_X10_layBacks_l35b
    refine dg_s (pc' := 36) [.int x2] rfl (fun _ => rfl) rfl ?_
    refine dg_s (pc' := 37) [.ref x0, .int x2] rfl (fun _ => rfl) rfl ?_
    refine dg_s (pc' := 40) [.int (m.1 x0 3), .int x2] rfl (fun _ => rfl) rfl ?_
    refine dw_if (fun t => Φ (Option.bind t (dc_bk (d_X10_layBacks_l35s x0 x1)))) ((Int32.toInt (m.1 x0 3)) ≤ (Int32.toInt x2)) [] 230 43 rfl (fun _ => rfl) (fun c0 => ?_) (fun c0 => ?_)
    · refine dw_g rfl ?_
      refine dg_L (pc' := 233) [(1, .int (x1 + (1 : Int32))), (0, .ref x0), (2, .int x2)] [] rfl (fun _ => rfl) rfl ?_
      refine dw_s (pc' := 25) [] rfl (fun _ => rfl) ?_
      exact dw_j rfl (fun lv1 hv => k25 (x1 + (1 : Int32)) m lv1 (hv.1 _ rfl) (hv.2.1 _ rfl))
    · refine dw_g rfl ?_
      refine dg_s (pc' := 44) [.ref x0] rfl (fun _ => rfl) rfl ?_
      refine dg_s (pc' := 47) [.ref (x0 + 18)] rfl (fun _ => rfl) rfl ?_
      refine dg_s (pc' := 49) [.int (16 : Int32), .ref (x0 + 18)] rfl (fun _ => rfl) rfl ?_
      refine dg_s (pc' := 50) [.int x1, .int (16 : Int32), .ref (x0 + 18)] rfl (fun _ => rfl) rfl ?_
      refine dg_s (pc' := 51) [.int ((16 : Int32) * x1), .ref (x0 + 18)] rfl (fun _ => rfl) rfl ?_
      refine dg_s (pc' := 52) [.int x2, .int ((16 : Int32) * x1), .ref (x0 + 18)] rfl (fun _ => rfl) rfl ?_
      refine dg_s (pc' := 53) [.int (((16 : Int32) * x1) + x2), .ref (x0 + 18)] rfl (fun _ => rfl) rfl ?_
      refine dg_s (pc' := 54) [.int (m.1 (x0 + 18) (Int32.toNatClampNeg (((16 : Int32) * x1) + x2)))] rfl (fun _ => rfl) rfl ?_
      refine dg_s (pc' := 56) [.int (-4 : Int32), .int (m.1 (x0 + 18) (Int32.toNatClampNeg (((16 : Int32) * x1) + x2)))] rfl (fun _ => rfl) rfl ?_
      refine dw_if (fun t => Φ (Option.bind t (dc_bk (d_X10_layBacks_l35s x0 x1)))) ((Int32.toInt (m.1 (x0 + 18) (Int32.toNatClampNeg (((16 : Int32) * x1) + x2)))) = (-4)) [] 77 59 rfl (fun _ => rfl) (fun c1 => ?_) (fun c1 => ?_)
      · refine dw_g rfl ?_
        refine dg_s (pc' := 78) [.int (0 : Int32)] rfl (fun _ => rfl) rfl ?_
        refine dg_L (pc' := 79) [(3, .int (0 : Int32)), (0, .ref x0), (1, .int x1), (2, .int x2)] [] rfl (fun _ => rfl) rfl ?_
        refine dg_s (pc' := 80) [.int (0 : Int32)] rfl (fun _ => rfl) rfl ?_
        refine dw_L (pc' := 82) [(4, .int (0 : Int32)), (3, .int (0 : Int32)), (0, .ref x0), (1, .int x1), (2, .int x2)] [] rfl (fun _ => rfl) ?_
        exact dw_j rfl (fun lv1 hv => k_X10_layBacks_l82 (Φ := (fun t => Φ (Option.bind t (dc_bk (d_X10_layBacks_l35s x0 x1))))) x0 x1 x2 (0 : Int32) (fun _b => kR _b) N ih k25 (0 : Int32) m lv1 (hv.1 _ rfl) (hv.2.1 _ rfl) (hv.2.2.1 _ rfl) (hv.2.2.2.1 _ rfl) (hv.2.2.2.2.1 _ rfl))
      · refine dw_g rfl ?_
        refine dg_s (pc' := 60) [.ref x0] rfl (fun _ => rfl) rfl ?_
        refine dg_s (pc' := 63) [.ref (x0 + 2)] rfl (fun _ => rfl) rfl ?_
        refine dg_s (pc' := 64) [.ref x0, .ref (x0 + 2)] rfl (fun _ => rfl) rfl ?_
        refine dg_s (pc' := 67) [.ref (x0 + 3), .ref (x0 + 2)] rfl (fun _ => rfl) rfl ?_
        refine dg_s (pc' := 68) [.int x2, .ref (x0 + 3), .ref (x0 + 2)] rfl (fun _ => rfl) rfl ?_
        refine dg_s (pc' := 69) [.int (m.1 (x0 + 3) (Int32.toNatClampNeg x2)), .ref (x0 + 2)] rfl (fun _ => rfl) rfl ?_
        refine dg_s (pc' := 70) [.int (m.1 (x0 + 2) (Int32.toNatClampNeg (m.1 (x0 + 3) (Int32.toNatClampNeg x2))))] rfl (fun _ => rfl) rfl ?_
        refine dw_if (fun t => Φ (Option.bind t (dc_bk (d_X10_layBacks_l35s x0 x1)))) ((Int32.toInt (m.1 (x0 + 2) (Int32.toNatClampNeg (m.1 (x0 + 3) (Int32.toNatClampNeg x2))))) ≤ 0) [] 77 73 rfl (fun _ => rfl) (fun c2 => ?_) (fun c2 => ?_)
        · refine dw_g rfl ?_
          refine dg_s (pc' := 78) [.int (0 : Int32)] rfl (fun _ => rfl) rfl ?_
          refine dg_L (pc' := 79) [(3, .int (0 : Int32)), (0, .ref x0), (1, .int x1), (2, .int x2)] [] rfl (fun _ => rfl) rfl ?_
          refine dg_s (pc' := 80) [.int (0 : Int32)] rfl (fun _ => rfl) rfl ?_
          refine dw_L (pc' := 82) [(4, .int (0 : Int32)), (3, .int (0 : Int32)), (0, .ref x0), (1, .int x1), (2, .int x2)] [] rfl (fun _ => rfl) ?_
          exact dw_j rfl (fun lv1 hv => k_X10_layBacks_l82 (Φ := (fun t => Φ (Option.bind t (dc_bk (d_X10_layBacks_l35s x0 x1))))) x0 x1 x2 (0 : Int32) (fun _b => kR _b) N ih k25 (0 : Int32) m lv1 (hv.1 _ rfl) (hv.2.1 _ rfl) (hv.2.2.1 _ rfl) (hv.2.2.2.1 _ rfl) (hv.2.2.2.2.1 _ rfl))
        · refine dw_g rfl ?_
          refine dg_s (pc' := 74) [.int (1 : Int32)] rfl (fun _ => rfl) rfl ?_
          refine dg_s (pc' := 78) [.int (1 : Int32)] rfl (fun _ => rfl) rfl ?_
          refine dg_L (pc' := 79) [(3, .int (1 : Int32)), (0, .ref x0), (1, .int x1), (2, .int x2)] [] rfl (fun _ => rfl) rfl ?_
          refine dg_s (pc' := 80) [.int (0 : Int32)] rfl (fun _ => rfl) rfl ?_
          refine dw_L (pc' := 82) [(4, .int (0 : Int32)), (3, .int (1 : Int32)), (0, .ref x0), (1, .int x1), (2, .int x2)] [] rfl (fun _ => rfl) ?_
          exact dw_j rfl (fun lv1 hv => k_X10_layBacks_l82 (Φ := (fun t => Φ (Option.bind t (dc_bk (d_X10_layBacks_l35s x0 x1))))) x0 x1 x2 (1 : Int32) (fun _b => kR _b) N ih k25 (0 : Int32) m lv1 (hv.1 _ rfl) (hv.2.1 _ rfl) (hv.2.2.1 _ rfl) (hv.2.2.2.1 _ rfl) (hv.2.2.2.2.1 _ rfl))
noncomputable def d_X10_layBacks_l25b (x0 : Nat) (x1 : Int32) (m : dc_M) : Option ((Int32 × dc_M) ⊕ dc_M) :=
  (if (Int32.toInt (m.1 x0 32)) ≤ (Int32.toInt x1) then some (Sum.inr (m)) else (d_X10_layBacks_l35 x0 x1 (0 : Int32) m))
noncomputable def d_X10_layBacks_l25s (x0 : Nat) : (Int32 × dc_M) → Option ((Int32 × dc_M) ⊕ dc_M) := fun s => d_X10_layBacks_l25b x0 s.1 s.2
noncomputable def d_X10_layBacks_l25 (x0 : Nat) (x1 : Int32) (m : dc_M) : Option dc_M := dc_lp (d_X10_layBacks_l25s x0) (x1, m)
set_option maxHeartbeats 8000000 in
theorem k_X10_layBacks_l25 {u : Nat} {Φ : (Option dc_M) → Option Value → dc_M → Prop} (x0 : Nat) (kR : ∀  (m : dc_M), Φ (some (m)) (none) m) : ∀ (N : Nat), ∀ (x1 : Int32) (m : dc_M) (lv : ab_L), ab_lk lv 0 = some (.ref x0) → ab_lk lv 1 = some (.int x1) → dc_pv u N ab_M_X10_layBacks 25 lv [] m (Φ (d_X10_layBacks_l25 x0 x1 m)) := by
  intro N
  induction N with
  | zero => intros; exact dc_pv_zero
  | succ N ih =>
    intro x1 m lv f0 f1
    refine dc_ok (C := C_X10_layBacks) (S := S_X10_layBacks) CO_X10_layBacks 400 25 [(0, .ref x0), (1, .int x1)] lv [] m (dc_sub_cons f0 (dc_sub_cons f1 (dc_sub_nil))) ?_
    unfold d_X10_layBacks_l25
    rw [dc_lp_eq]
    show (fun t x => dc_lf u N ab_M_X10_layBacks (Φ (Option.bind t (dc_bk (d_X10_layBacks_l25s x0)))) x) (d_X10_layBacks_l25b x0 x1 m) _
    dsimp only
    unfold d_X10_layBacks_l25b
    refine dg_s (pc' := 26) [.int x1] rfl (fun _ => rfl) rfl ?_
    refine dg_s (pc' := 27) [.ref x0, .int x1] rfl (fun _ => rfl) rfl ?_
    refine dg_s (pc' := 30) [.int (m.1 x0 32), .int x1] rfl (fun _ => rfl) rfl ?_
    refine dw_if (fun t => Φ (Option.bind t (dc_bk (d_X10_layBacks_l25s x0)))) ((Int32.toInt (m.1 x0 32)) ≤ (Int32.toInt x1)) [] 236 33 rfl (fun _ => rfl) (fun c0 => ?_) (fun c0 => ?_)
    · refine dw_g rfl ?_
      exact dw_r (some (.inl (none, m))) rfl (fun _ => rfl) (kR _)
    · refine dw_g rfl ?_
      refine dg_s (pc' := 34) [.int (0 : Int32)] rfl (fun _ => rfl) rfl ?_
      refine dw_L (pc' := 35) [(2, .int (0 : Int32)), (0, .ref x0), (1, .int x1)] [] rfl (fun _ => rfl) ?_
      exact dw_j rfl (fun lv1 hv => k_X10_layBacks_l35 (Φ := (fun t => Φ (Option.bind t (dc_bk (d_X10_layBacks_l25s x0))))) x0 x1 (fun _b => kR _b) N ih (0 : Int32) m lv1 (hv.1 _ rfl) (hv.2.1 _ rfl) (hv.2.2.1 _ rfl))
noncomputable def d_X10_layBacks (x0 : Nat) (m : dc_M) : Option dc_M :=
  (d_X10_layBacks_l25 x0 (0 : Int32) (dc_wi (dc_wi (dc_wi (dc_wi m x0 43 (0 : Int32)) x0 44 (-4 : Int32)) x0 45 (-4 : Int32)) x0 46 (-4 : Int32)))
set_option maxHeartbeats 8000000 in
theorem k_X10_layBacks {u : Nat} {N : Nat} {Φ : (Option dc_M) → Option Value → dc_M → Prop} (x0 : Nat) (m : dc_M) (kR : ∀  (m : dc_M), Φ (some (m)) (none) m)  {lv : ab_L} (f0 : ab_lk lv 0 = some (.ref x0)) : dc_pv u N ab_M_X10_layBacks 0 lv [] m (Φ (d_X10_layBacks x0 m)) := by
  refine dc_pv.mono (dc_ok (C := C_X10_layBacks) (S := S_X10_layBacks) CO_X10_layBacks 400 0 [(0, .ref x0)] lv [] m (dc_sub_cons f0 (dc_sub_nil)) ?_) (Nat.le_succ N)
  unfold d_X10_layBacks
  refine dg_s (pc' := 1) [.ref x0] rfl (fun _ => rfl) rfl ?_
  refine dg_s (pc' := 2) [.int (0 : Int32), .ref x0] rfl (fun _ => rfl) rfl ?_
  refine dg_m (pc' := 5) (dc_wi m x0 43 (0 : Int32)) [] rfl (fun _ => rfl) rfl ?_
  refine dg_s (pc' := 6) [.ref x0] rfl (fun _ => rfl) rfl ?_
  refine dg_s (pc' := 8) [.int (-4 : Int32), .ref x0] rfl (fun _ => rfl) rfl ?_
  refine dg_m (pc' := 11) (dc_wi (dc_wi m x0 43 (0 : Int32)) x0 44 (-4 : Int32)) [] rfl (fun _ => rfl) rfl ?_
  refine dg_s (pc' := 12) [.ref x0] rfl (fun _ => rfl) rfl ?_
  refine dg_s (pc' := 14) [.int (-4 : Int32), .ref x0] rfl (fun _ => rfl) rfl ?_
  refine dg_m (pc' := 17) (dc_wi (dc_wi (dc_wi m x0 43 (0 : Int32)) x0 44 (-4 : Int32)) x0 45 (-4 : Int32)) [] rfl (fun _ => rfl) rfl ?_
  refine dg_s (pc' := 18) [.ref x0] rfl (fun _ => rfl) rfl ?_
  refine dg_s (pc' := 20) [.int (-4 : Int32), .ref x0] rfl (fun _ => rfl) rfl ?_
  refine dg_m (pc' := 23) (dc_wi (dc_wi (dc_wi (dc_wi m x0 43 (0 : Int32)) x0 44 (-4 : Int32)) x0 45 (-4 : Int32)) x0 46 (-4 : Int32)) [] rfl (fun _ => rfl) rfl ?_
  refine dg_s (pc' := 24) [.int (0 : Int32)] rfl (fun _ => rfl) rfl ?_
  refine dw_L (pc' := 25) [(1, .int (0 : Int32)), (0, .ref x0)] [] rfl (fun _ => rfl) ?_
  exact dw_j rfl (fun lv1 hv => k_X10_layBacks_l25 (Φ := (fun t => Φ t)) x0 (fun _b => kR _b) N  (0 : Int32) (dc_wi (dc_wi (dc_wi (dc_wi m x0 43 (0 : Int32)) x0 44 (-4 : Int32)) x0 45 (-4 : Int32)) x0 46 (-4 : Int32)) lv1 (hv.1 _ rfl) (hv.2.1 _ rfl))
noncomputable def H_X10_layBacks : dc_H := fun As m k => match As with
  | [.ref x0] => (d_X10_layBacks x0 m).bind (fun q => k (none) q)
  | _ => dc_kz
theorem H_X10_layBacks_ok {u : Nat} : dc_cok u 185 H_X10_layBacks := fun M' hG N As m k P hz hP => by
  obtain rfl : ab_M_X10_layBacks = M' := Option.some.inj hG
  unfold H_X10_layBacks at hP
  split at hP
  · rename_i x0
    exact dc_pv.imp (k_X10_layBacks (Φ := fun (t : Option dc_M) r m' => P (t.bind (fun q => k (none) q)) → P (k r m')) x0 m (fun _ h => h) rfl) (fun r m' h => h hP)
  · exact absurd hP hz
