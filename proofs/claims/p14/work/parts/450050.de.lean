/-! ===== methods as functions (written by a program) ===== -/
def C_J7_fill_53178 : List (Nat × dc_H) := []
theorem CO_J7_fill_53178 {u : Nat} : dc_CO u C_J7_fill_53178 := dc_CO_nil
def S_J7_fill_53178 : List (Nat × List Nat) := [(5, [0, 1, 2, 3])]
noncomputable def d_J7_fill_53178_l5b (x0 : Nat) (x1 : Int32) (x3 : Int32) (x2 : Int32) (m : dc_M) : Option ((Int32 × dc_M) ⊕ dc_M) :=
  (if (Int32.toInt x3) ≤ (Int32.toInt x2) then some (Sum.inr (m)) else some (Sum.inl ((x2 + (1 : Int32)), (dc_wi m x0 (Int32.toNatClampNeg x2) x1))))
noncomputable def d_J7_fill_53178_l5s (x0 : Nat) (x1 : Int32) (x3 : Int32) : (Int32 × dc_M) → Option ((Int32 × dc_M) ⊕ dc_M) := fun s => d_J7_fill_53178_l5b x0 x1 x3 s.1 s.2
noncomputable def d_J7_fill_53178_l5 (x0 : Nat) (x1 : Int32) (x3 : Int32) (x2 : Int32) (m : dc_M) : Option dc_M := dc_lp (d_J7_fill_53178_l5s x0 x1 x3) (x2, m)
set_option maxHeartbeats 8000000 in
theorem k_J7_fill_53178_l5 {u : Nat} {Φ : (Option dc_M) → Option Value → dc_M → Prop} (x0 : Nat) (x1 : Int32) (x3 : Int32) (kR : ∀  (m : dc_M), Φ (some (m)) (none) m) : ∀ (N : Nat), ∀ (x2 : Int32) (m : dc_M) (lv : ab_L), ab_lk lv 0 = some (.ref x0) → ab_lk lv 1 = some (.int x1) → ab_lk lv 2 = some (.int x2) → ab_lk lv 3 = some (.int x3) → dc_pv u N ab_M_J7_fill_53178 5 lv [] m (Φ (d_J7_fill_53178_l5 x0 x1 x3 x2 m)) := by
  intro N
  induction N with
  | zero => intros; exact dc_pv_zero
  | succ N ih =>
    intro x2 m lv f0 f1 f2 f3
    refine dc_ok (C := C_J7_fill_53178) (S := S_J7_fill_53178) CO_J7_fill_53178 400 5 [(0, .ref x0), (1, .int x1), (2, .int x2), (3, .int x3)] lv [] m (dc_sub_cons f0 (dc_sub_cons f1 (dc_sub_cons f2 (dc_sub_cons f3 (dc_sub_nil))))) ?_
    unfold d_J7_fill_53178_l5
    rw [dc_lp_eq]
    show (fun t x => dc_lf u N ab_M_J7_fill_53178 (Φ (Option.bind t (dc_bk (d_J7_fill_53178_l5s x0 x1 x3)))) x) (d_J7_fill_53178_l5b x0 x1 x3 x2 m) _
    dsimp only
    unfold d_J7_fill_53178_l5b
    refine dg_s (pc' := 6) [.int x2] rfl (fun _ => rfl) rfl ?_
    refine dg_s (pc' := 7) [.int x3, .int x2] rfl (fun _ => rfl) rfl ?_
    refine dw_if (fun t => Φ (Option.bind t (dc_bk (d_J7_fill_53178_l5s x0 x1 x3)))) ((Int32.toInt x3) ≤ (Int32.toInt x2)) [] 20 10 rfl (fun _ => rfl) (fun c0 => ?_) (fun c0 => ?_)
    · refine dw_g rfl ?_
      exact dw_r (some (.inl (none, m))) rfl (fun _ => rfl) (kR _)
    · refine dw_g rfl ?_
      refine dg_s (pc' := 11) [.ref x0] rfl (fun _ => rfl) rfl ?_
      refine dg_s (pc' := 12) [.int x2, .ref x0] rfl (fun _ => rfl) rfl ?_
      refine dg_s (pc' := 13) [.int x1, .int x2, .ref x0] rfl (fun _ => rfl) rfl ?_
      refine dg_m (pc' := 14) (dc_wi m x0 (Int32.toNatClampNeg x2) x1) [] rfl (fun _ => rfl) rfl ?_
      refine dg_L (pc' := 17) [(2, .int (x2 + (1 : Int32))), (0, .ref x0), (1, .int x1), (3, .int x3)] [] rfl (fun _ => rfl) rfl ?_
      refine dw_s (pc' := 5) [] rfl (fun _ => rfl) ?_
      exact dw_j rfl (fun lv1 hv => ih (x2 + (1 : Int32)) (dc_wi m x0 (Int32.toNatClampNeg x2) x1) lv1 (hv.1 _ rfl) (hv.2.1 _ rfl) (hv.2.2.1 _ rfl) (hv.2.2.2.1 _ rfl))
noncomputable def d_J7_fill_53178 (x0 : Nat) (x1 : Int32) (m : dc_M) : Option dc_M :=
  (d_J7_fill_53178_l5 x0 x1 (Int32.ofNat (m.2.2.2 x0).2) (0 : Int32) m)
set_option maxHeartbeats 8000000 in
theorem k_J7_fill_53178 {u : Nat} {N : Nat} {Φ : (Option dc_M) → Option Value → dc_M → Prop} (x0 : Nat) (x1 : Int32) (m : dc_M) (kR : ∀  (m : dc_M), Φ (some (m)) (none) m)  {lv : ab_L} (f0 : ab_lk lv 0 = some (.ref x0)) (f1 : ab_lk lv 1 = some (.int x1)) : dc_pv u N ab_M_J7_fill_53178 0 lv [] m (Φ (d_J7_fill_53178 x0 x1 m)) := by
  refine dc_pv.mono (dc_ok (C := C_J7_fill_53178) (S := S_J7_fill_53178) CO_J7_fill_53178 400 0 [(0, .ref x0), (1, .int x1)] lv [] m (dc_sub_cons f0 (dc_sub_cons f1 (dc_sub_nil))) ?_) (Nat.le_succ N)
  unfold d_J7_fill_53178
  refine dg_s (pc' := 1) [.int (0 : Int32)] rfl (fun _ => rfl) rfl ?_
  refine dg_L (pc' := 2) [(2, .int (0 : Int32)), (0, .ref x0), (1, .int x1)] [] rfl (fun _ => rfl) rfl ?_
  refine dg_s (pc' := 3) [.ref x0] rfl (fun _ => rfl) rfl ?_
  refine dg_s (pc' := 4) [.int (Int32.ofNat (m.2.2.2 x0).2)] rfl (fun _ => rfl) rfl ?_
  refine dw_L (pc' := 5) [(3, .int (Int32.ofNat (m.2.2.2 x0).2)), (2, .int (0 : Int32)), (0, .ref x0), (1, .int x1)] [] rfl (fun _ => rfl) ?_
  exact dw_j rfl (fun lv1 hv => k_J7_fill_53178_l5 (Φ := (fun t => Φ t)) x0 x1 (Int32.ofNat (m.2.2.2 x0).2) (fun _b => kR _b) N  (0 : Int32) m lv1 (hv.1 _ rfl) (hv.2.1 _ rfl) (hv.2.2.1 _ rfl) (hv.2.2.2.1 _ rfl))
noncomputable def H_J7_fill_53178 : dc_H := fun As m k => match As with
  | [.ref x0, .int x1] => (d_J7_fill_53178 x0 x1 m).bind (fun q => k (none) q)
  | _ => dc_kz
theorem H_J7_fill_53178_ok {u : Nat} : dc_cok u 238 H_J7_fill_53178 := fun M' hG N As m k P hz hP => by
  obtain rfl : ab_M_J7_fill_53178 = M' := Option.some.inj hG
  unfold H_J7_fill_53178 at hP
  split at hP
  · rename_i x0 x1
    exact dc_pv.imp (k_J7_fill_53178 (Φ := fun (t : Option dc_M) r m' => P (t.bind (fun q => k (none) q)) → P (k r m')) x0 x1 m (fun _ h => h) rfl rfl) (fun r m' h => h hP)
  · exact absurd hP hz
def C_X3_after : List (Nat × dc_H) := []
theorem CO_X3_after {u : Nat} : dc_CO u C_X3_after := dc_CO_nil
def S_X3_after : List (Nat × List Nat) := []
def d_X3_after (x0 : Nat) (x1 : Int32) (x2 : Int32) (m : dc_M) : Int32 :=
  ((x1 &&& ((m.1 (x0 + 6) (Int32.toNatClampNeg x2)) ^^^ (-1 : Int32))) ||| (m.1 (x0 + 7) (Int32.toNatClampNeg x2)))
set_option maxHeartbeats 8000000 in
theorem k_X3_after {u : Nat} {N : Nat} {Φ : Int32 → Option Value → dc_M → Prop} (x0 : Nat) (x1 : Int32) (x2 : Int32) (m : dc_M) (kR : ∀ (v : Int32), Φ (v) (some (.int v)) m)  {lv : ab_L} (f0 : ab_lk lv 0 = some (.ref x0)) (f1 : ab_lk lv 1 = some (.int x1)) (f2 : ab_lk lv 2 = some (.int x2)) : dc_pv u N ab_M_X3_after 0 lv [] m (Φ (d_X3_after x0 x1 x2 m)) := by
  refine dc_pv.mono (dc_ok (C := C_X3_after) (S := S_X3_after) CO_X3_after 400 0 [(0, .ref x0), (1, .int x1), (2, .int x2)] lv [] m (dc_sub_cons f0 (dc_sub_cons f1 (dc_sub_cons f2 (dc_sub_nil)))) ?_) (Nat.le_succ N)
  unfold d_X3_after
  refine dg_s (pc' := 1) [.int x1] rfl (fun _ => rfl) rfl ?_
  refine dg_s (pc' := 2) [.ref x0, .int x1] rfl (fun _ => rfl) rfl ?_
  refine dg_s (pc' := 5) [.ref (x0 + 6), .int x1] rfl (fun _ => rfl) rfl ?_
  refine dg_s (pc' := 6) [.int x2, .ref (x0 + 6), .int x1] rfl (fun _ => rfl) rfl ?_
  refine dg_s (pc' := 7) [.int (m.1 (x0 + 6) (Int32.toNatClampNeg x2)), .int x1] rfl (fun _ => rfl) rfl ?_
  refine dg_s (pc' := 8) [.int (-1 : Int32), .int (m.1 (x0 + 6) (Int32.toNatClampNeg x2)), .int x1] rfl (fun _ => rfl) rfl ?_
  refine dg_s (pc' := 9) [.int ((m.1 (x0 + 6) (Int32.toNatClampNeg x2)) ^^^ (-1 : Int32)), .int x1] rfl (fun _ => rfl) rfl ?_
  refine dg_s (pc' := 10) [.int (x1 &&& ((m.1 (x0 + 6) (Int32.toNatClampNeg x2)) ^^^ (-1 : Int32)))] rfl (fun _ => rfl) rfl ?_
  refine dg_s (pc' := 11) [.ref x0, .int (x1 &&& ((m.1 (x0 + 6) (Int32.toNatClampNeg x2)) ^^^ (-1 : Int32)))] rfl (fun _ => rfl) rfl ?_
  refine dg_s (pc' := 14) [.ref (x0 + 7), .int (x1 &&& ((m.1 (x0 + 6) (Int32.toNatClampNeg x2)) ^^^ (-1 : Int32)))] rfl (fun _ => rfl) rfl ?_
  refine dg_s (pc' := 15) [.int x2, .ref (x0 + 7), .int (x1 &&& ((m.1 (x0 + 6) (Int32.toNatClampNeg x2)) ^^^ (-1 : Int32)))] rfl (fun _ => rfl) rfl ?_
  refine dg_s (pc' := 16) [.int (m.1 (x0 + 7) (Int32.toNatClampNeg x2)), .int (x1 &&& ((m.1 (x0 + 6) (Int32.toNatClampNeg x2)) ^^^ (-1 : Int32)))] rfl (fun _ => rfl) rfl ?_
  refine dg_s (pc' := 17) [.int ((x1 &&& ((m.1 (x0 + 6) (Int32.toNatClampNeg x2)) ^^^ (-1 : Int32))) ||| (m.1 (x0 + 7) (Int32.toNatClampNeg x2)))] rfl (fun _ => rfl) rfl ?_
  exact dw_r (some (.inl (some (.int ((x1 &&& ((m.1 (x0 + 6) (Int32.toNatClampNeg x2)) ^^^ (-1 : Int32))) ||| (m.1 (x0 + 7) (Int32.toNatClampNeg x2)))), m))) rfl (fun _ => rfl) (kR _)
def H_X3_after : dc_H := fun As m k => match As with
  | [.ref x0, .int x1, .int x2] => k (some (.int (d_X3_after x0 x1 x2 m))) m
  | _ => dc_kz
theorem H_X3_after_ok {u : Nat} : dc_cok u 39 H_X3_after := fun M' hG N As m k P hz hP => by
  obtain rfl : ab_M_X3_after = M' := Option.some.inj hG
  unfold H_X3_after at hP
  split at hP
  · rename_i x0 x1 x2
    exact dc_pv.imp (k_X3_after (Φ := fun (t : Int32) r m' => P (k (some (.int t)) m) → P (k r m')) x0 x1 x2 m (fun _  h => h) rfl rfl rfl) (fun r m' h => h hP)
  · exact absurd hP hz
def C_X3_isReady : List (Nat × dc_H) := []
theorem CO_X3_isReady {u : Nat} : dc_CO u C_X3_isReady := dc_CO_nil
def S_X3_isReady : List (Nat × List Nat) := []
def d_X3_isReady (x0 : Nat) (x1 : Int32) (x2 : Int32) (m : dc_M) : Int32 :=
  (if (Int32.toInt (m.1 (x0 + 6) (Int32.toNatClampNeg x2))) = 0 then (0 : Int32) else (if ¬ (Int32.toInt (x1 &&& (m.1 (x0 + 6) (Int32.toNatClampNeg x2)))) = (Int32.toInt (m.1 (x0 + 6) (Int32.toNatClampNeg x2))) then (0 : Int32) else (1 : Int32)))
set_option maxHeartbeats 8000000 in
theorem k_X3_isReady {u : Nat} {N : Nat} {Φ : Int32 → Option Value → dc_M → Prop} (x0 : Nat) (x1 : Int32) (x2 : Int32) (m : dc_M) (kR : ∀ (v : Int32), Φ (v) (some (.int v)) m)  {lv : ab_L} (f0 : ab_lk lv 0 = some (.ref x0)) (f1 : ab_lk lv 1 = some (.int x1)) (f2 : ab_lk lv 2 = some (.int x2)) : dc_pv u N ab_M_X3_isReady 0 lv [] m (Φ (d_X3_isReady x0 x1 x2 m)) := by
  refine dc_pv.mono (dc_ok (C := C_X3_isReady) (S := S_X3_isReady) CO_X3_isReady 400 0 [(0, .ref x0), (1, .int x1), (2, .int x2)] lv [] m (dc_sub_cons f0 (dc_sub_cons f1 (dc_sub_cons f2 (dc_sub_nil)))) ?_) (Nat.le_succ N)
  unfold d_X3_isReady
  refine dg_s (pc' := 1) [.ref x0] rfl (fun _ => rfl) rfl ?_
  refine dg_s (pc' := 4) [.ref (x0 + 6)] rfl (fun _ => rfl) rfl ?_
  refine dg_s (pc' := 5) [.int x2, .ref (x0 + 6)] rfl (fun _ => rfl) rfl ?_
  refine dg_s (pc' := 6) [.int (m.1 (x0 + 6) (Int32.toNatClampNeg x2))] rfl (fun _ => rfl) rfl ?_
  refine dw_if (fun t => Φ t) ((Int32.toInt (m.1 (x0 + 6) (Int32.toNatClampNeg x2))) = 0) [] 30 9 rfl (fun _ => rfl) (fun c0 => ?_) (fun c0 => ?_)
  · refine dw_g rfl ?_
    refine dg_s (pc' := 31) [.int (0 : Int32)] rfl (fun _ => rfl) rfl ?_
    exact dw_r (some (.inl (some (.int (0 : Int32)), m))) rfl (fun _ => rfl) (kR _)
  · refine dw_g rfl ?_
    refine dg_s (pc' := 10) [.int x1] rfl (fun _ => rfl) rfl ?_
    refine dg_s (pc' := 11) [.ref x0, .int x1] rfl (fun _ => rfl) rfl ?_
    refine dg_s (pc' := 14) [.ref (x0 + 6), .int x1] rfl (fun _ => rfl) rfl ?_
    refine dg_s (pc' := 15) [.int x2, .ref (x0 + 6), .int x1] rfl (fun _ => rfl) rfl ?_
    refine dg_s (pc' := 16) [.int (m.1 (x0 + 6) (Int32.toNatClampNeg x2)), .int x1] rfl (fun _ => rfl) rfl ?_
    refine dg_s (pc' := 17) [.int (x1 &&& (m.1 (x0 + 6) (Int32.toNatClampNeg x2)))] rfl (fun _ => rfl) rfl ?_
    refine dg_s (pc' := 18) [.ref x0, .int (x1 &&& (m.1 (x0 + 6) (Int32.toNatClampNeg x2)))] rfl (fun _ => rfl) rfl ?_
    refine dg_s (pc' := 21) [.ref (x0 + 6), .int (x1 &&& (m.1 (x0 + 6) (Int32.toNatClampNeg x2)))] rfl (fun _ => rfl) rfl ?_
    refine dg_s (pc' := 22) [.int x2, .ref (x0 + 6), .int (x1 &&& (m.1 (x0 + 6) (Int32.toNatClampNeg x2)))] rfl (fun _ => rfl) rfl ?_
    refine dg_s (pc' := 23) [.int (m.1 (x0 + 6) (Int32.toNatClampNeg x2)), .int (x1 &&& (m.1 (x0 + 6) (Int32.toNatClampNeg x2)))] rfl (fun _ => rfl) rfl ?_
    refine dw_if (fun t => Φ t) (¬ (Int32.toInt (x1 &&& (m.1 (x0 + 6) (Int32.toNatClampNeg x2)))) = (Int32.toInt (m.1 (x0 + 6) (Int32.toNatClampNeg x2)))) [] 30 26 rfl (fun _ => rfl) (fun c1 => ?_) (fun c1 => ?_)
    · refine dw_g rfl ?_
      refine dg_s (pc' := 31) [.int (0 : Int32)] rfl (fun _ => rfl) rfl ?_
      exact dw_r (some (.inl (some (.int (0 : Int32)), m))) rfl (fun _ => rfl) (kR _)
    · refine dw_g rfl ?_
      refine dg_s (pc' := 27) [.int (1 : Int32)] rfl (fun _ => rfl) rfl ?_
      refine dg_s (pc' := 31) [.int (1 : Int32)] rfl (fun _ => rfl) rfl ?_
      exact dw_r (some (.inl (some (.int (1 : Int32)), m))) rfl (fun _ => rfl) (kR _)
def H_X3_isReady : dc_H := fun As m k => match As with
  | [.ref x0, .int x1, .int x2] => k (some (.int (d_X3_isReady x0 x1 x2 m))) m
  | _ => dc_kz
theorem H_X3_isReady_ok {u : Nat} : dc_cok u 36 H_X3_isReady := fun M' hG N As m k P hz hP => by
  obtain rfl : ab_M_X3_isReady = M' := Option.some.inj hG
  unfold H_X3_isReady at hP
  split at hP
  · rename_i x0 x1 x2
    exact dc_pv.imp (k_X3_isReady (Φ := fun (t : Int32) r m' => P (k (some (.int t)) m) → P (k r m')) x0 x1 x2 m (fun _  h => h) rfl rfl rfl) (fun r m' h => h hP)
  · exact absurd hP hz
def C_X3_isUnsafe : List (Nat × dc_H) := []
theorem CO_X3_isUnsafe {u : Nat} : dc_CO u C_X3_isUnsafe := dc_CO_nil
def S_X3_isUnsafe : List (Nat × List Nat) := []
def d_X3_isUnsafe (x0 : Nat) (x1 : Int32) (x2 : Int32) (m : dc_M) : Int32 :=
  (if (Int32.toInt ((x1 &&& ((m.1 (x0 + 6) (Int32.toNatClampNeg x2)) ^^^ (-1 : Int32))) &&& (m.1 (x0 + 7) (Int32.toNatClampNeg x2)))) = 0 then (0 : Int32) else (1 : Int32))
set_option maxHeartbeats 8000000 in
theorem k_X3_isUnsafe {u : Nat} {N : Nat} {Φ : Int32 → Option Value → dc_M → Prop} (x0 : Nat) (x1 : Int32) (x2 : Int32) (m : dc_M) (kR : ∀ (v : Int32), Φ (v) (some (.int v)) m)  {lv : ab_L} (f0 : ab_lk lv 0 = some (.ref x0)) (f1 : ab_lk lv 1 = some (.int x1)) (f2 : ab_lk lv 2 = some (.int x2)) : dc_pv u N ab_M_X3_isUnsafe 0 lv [] m (Φ (d_X3_isUnsafe x0 x1 x2 m)) := by
  refine dc_pv.mono (dc_ok (C := C_X3_isUnsafe) (S := S_X3_isUnsafe) CO_X3_isUnsafe 400 0 [(0, .ref x0), (1, .int x1), (2, .int x2)] lv [] m (dc_sub_cons f0 (dc_sub_cons f1 (dc_sub_cons f2 (dc_sub_nil)))) ?_) (Nat.le_succ N)
  unfold d_X3_isUnsafe
  refine dg_s (pc' := 1) [.int x1] rfl (fun _ => rfl) rfl ?_
  refine dg_s (pc' := 2) [.ref x0, .int x1] rfl (fun _ => rfl) rfl ?_
  refine dg_s (pc' := 5) [.ref (x0 + 6), .int x1] rfl (fun _ => rfl) rfl ?_
  refine dg_s (pc' := 6) [.int x2, .ref (x0 + 6), .int x1] rfl (fun _ => rfl) rfl ?_
  refine dg_s (pc' := 7) [.int (m.1 (x0 + 6) (Int32.toNatClampNeg x2)), .int x1] rfl (fun _ => rfl) rfl ?_
  refine dg_s (pc' := 8) [.int (-1 : Int32), .int (m.1 (x0 + 6) (Int32.toNatClampNeg x2)), .int x1] rfl (fun _ => rfl) rfl ?_
  refine dg_s (pc' := 9) [.int ((m.1 (x0 + 6) (Int32.toNatClampNeg x2)) ^^^ (-1 : Int32)), .int x1] rfl (fun _ => rfl) rfl ?_
  refine dg_s (pc' := 10) [.int (x1 &&& ((m.1 (x0 + 6) (Int32.toNatClampNeg x2)) ^^^ (-1 : Int32)))] rfl (fun _ => rfl) rfl ?_
  refine dg_s (pc' := 11) [.ref x0, .int (x1 &&& ((m.1 (x0 + 6) (Int32.toNatClampNeg x2)) ^^^ (-1 : Int32)))] rfl (fun _ => rfl) rfl ?_
  refine dg_s (pc' := 14) [.ref (x0 + 7), .int (x1 &&& ((m.1 (x0 + 6) (Int32.toNatClampNeg x2)) ^^^ (-1 : Int32)))] rfl (fun _ => rfl) rfl ?_
  refine dg_s (pc' := 15) [.int x2, .ref (x0 + 7), .int (x1 &&& ((m.1 (x0 + 6) (Int32.toNatClampNeg x2)) ^^^ (-1 : Int32)))] rfl (fun _ => rfl) rfl ?_
  refine dg_s (pc' := 16) [.int (m.1 (x0 + 7) (Int32.toNatClampNeg x2)), .int (x1 &&& ((m.1 (x0 + 6) (Int32.toNatClampNeg x2)) ^^^ (-1 : Int32)))] rfl (fun _ => rfl) rfl ?_
  refine dg_s (pc' := 17) [.int ((x1 &&& ((m.1 (x0 + 6) (Int32.toNatClampNeg x2)) ^^^ (-1 : Int32))) &&& (m.1 (x0 + 7) (Int32.toNatClampNeg x2)))] rfl (fun _ => rfl) rfl ?_
  refine dw_if (fun t => Φ t) ((Int32.toInt ((x1 &&& ((m.1 (x0 + 6) (Int32.toNatClampNeg x2)) ^^^ (-1 : Int32))) &&& (m.1 (x0 + 7) (Int32.toNatClampNeg x2)))) = 0) [] 24 20 rfl (fun _ => rfl) (fun c0 => ?_) (fun c0 => ?_)
  · refine dw_g rfl ?_
    refine dg_s (pc' := 25) [.int (0 : Int32)] rfl (fun _ => rfl) rfl ?_
    exact dw_r (some (.inl (some (.int (0 : Int32)), m))) rfl (fun _ => rfl) (kR _)
  · refine dw_g rfl ?_
    refine dg_s (pc' := 21) [.int (1 : Int32)] rfl (fun _ => rfl) rfl ?_
    refine dg_s (pc' := 25) [.int (1 : Int32)] rfl (fun _ => rfl) rfl ?_
    exact dw_r (some (.inl (some (.int (1 : Int32)), m))) rfl (fun _ => rfl) (kR _)
def H_X3_isUnsafe : dc_H := fun As m k => match As with
  | [.ref x0, .int x1, .int x2] => k (some (.int (d_X3_isUnsafe x0 x1 x2 m))) m
  | _ => dc_kz
theorem H_X3_isUnsafe_ok {u : Nat} : dc_cok u 37 H_X3_isUnsafe := fun M' hG N As m k P hz hP => by
  obtain rfl : ab_M_X3_isUnsafe = M' := Option.some.inj hG
  unfold H_X3_isUnsafe at hP
  split at hP
  · rename_i x0 x1 x2
    exact dc_pv.imp (k_X3_isUnsafe (Φ := fun (t : Int32) r m' => P (k (some (.int t)) m) → P (k r m')) x0 x1 x2 m (fun _  h => h) rfl rfl rfl) (fun r m' h => h hP)
  · exact absurd hP hz
def C_X7_meet : List (Nat × dc_H) := []
theorem CO_X7_meet {u : Nat} : dc_CO u C_X7_meet := dc_CO_nil
def S_X7_meet : List (Nat × List Nat) := [(11, [0, 1, 2, 3, 4]), (65, [0, 1, 2, 3])]
noncomputable def d_X7_meet_b65 (x0 : Nat) (x1 : Int32) (x2 : Int32) (x3 : Int32) (m : dc_M) : Option (Int32 × dc_M) :=
  (if (Int32.toInt (m.1 x0 0)) < 200 then some ((((dc_wi (dc_wi (dc_wi m (x0 + 1) (Int32.toNatClampNeg (m.1 x0 0)) x1) (x0 + 3) (Int32.toNatClampNeg ((dc_wi m (x0 + 1) (Int32.toNatClampNeg (m.1 x0 0)) x1).1 x0 0)) x2) (x0 + 6) (Int32.toNatClampNeg x3) (((dc_wi (dc_wi m (x0 + 1) (Int32.toNatClampNeg (m.1 x0 0)) x1) (x0 + 3) (Int32.toNatClampNeg ((dc_wi m (x0 + 1) (Int32.toNatClampNeg (m.1 x0 0)) x1).1 x0 0)) x2).1 x0 0) + (1 : Int32))).1 x0 0), (dc_wi (dc_wi (dc_wi (dc_wi m (x0 + 1) (Int32.toNatClampNeg (m.1 x0 0)) x1) (x0 + 3) (Int32.toNatClampNeg ((dc_wi m (x0 + 1) (Int32.toNatClampNeg (m.1 x0 0)) x1).1 x0 0)) x2) (x0 + 6) (Int32.toNatClampNeg x3) (((dc_wi (dc_wi m (x0 + 1) (Int32.toNatClampNeg (m.1 x0 0)) x1) (x0 + 3) (Int32.toNatClampNeg ((dc_wi m (x0 + 1) (Int32.toNatClampNeg (m.1 x0 0)) x1).1 x0 0)) x2).1 x0 0) + (1 : Int32))) x0 0 (((dc_wi (dc_wi (dc_wi m (x0 + 1) (Int32.toNatClampNeg (m.1 x0 0)) x1) (x0 + 3) (Int32.toNatClampNeg ((dc_wi m (x0 + 1) (Int32.toNatClampNeg (m.1 x0 0)) x1).1 x0 0)) x2) (x0 + 6) (Int32.toNatClampNeg x3) (((dc_wi (dc_wi m (x0 + 1) (Int32.toNatClampNeg (m.1 x0 0)) x1) (x0 + 3) (Int32.toNatClampNeg ((dc_wi m (x0 + 1) (Int32.toNatClampNeg (m.1 x0 0)) x1).1 x0 0)) x2).1 x0 0) + (1 : Int32))).1 x0 0) + (1 : Int32))))) else some (((-4 : Int32), m)))
set_option maxHeartbeats 8000000 in
theorem k_X7_meet_b65 {u : Nat} {N : Nat} {Φ : (Option (Int32 × dc_M)) → Option Value → dc_M → Prop} (x0 : Nat) (x1 : Int32) (x2 : Int32) (x3 : Int32) (m : dc_M) (kR : ∀ (v : Int32) (m : dc_M), Φ (some ((v, m))) (some (.int v)) m)  {lv : ab_L} (f0 : ab_lk lv 0 = some (.ref x0)) (f1 : ab_lk lv 1 = some (.int x1)) (f2 : ab_lk lv 2 = some (.int x2)) (f3 : ab_lk lv 3 = some (.int x3)) : dc_pv u N ab_M_X7_meet 65 lv [] m (Φ (d_X7_meet_b65 x0 x1 x2 x3 m)) := by
  refine dc_pv.mono (dc_ok (C := C_X7_meet) (S := S_X7_meet) CO_X7_meet 400 65 [(0, .ref x0), (1, .int x1), (2, .int x2), (3, .int x3)] lv [] m (dc_sub_cons f0 (dc_sub_cons f1 (dc_sub_cons f2 (dc_sub_cons f3 (dc_sub_nil))))) ?_) (Nat.le_succ N)
  unfold d_X7_meet_b65
  refine dg_s (pc' := 66) [.ref x0] rfl (fun _ => rfl) rfl ?_
  refine dg_s (pc' := 69) [.int (m.1 x0 0)] rfl (fun _ => rfl) rfl ?_
  refine dg_s (pc' := 72) [.int (200 : Int32), .int (m.1 x0 0)] rfl (fun _ => rfl) rfl ?_
  refine dw_if (fun t => Φ t) ((Int32.toInt (m.1 x0 0)) < 200) [] 78 75 rfl (fun _ => rfl) (fun c0 => ?_) (fun c0 => ?_)
  · refine dw_g rfl ?_
    refine dg_s (pc' := 79) [.ref x0] rfl (fun _ => rfl) rfl ?_
    refine dg_s (pc' := 82) [.ref (x0 + 1)] rfl (fun _ => rfl) rfl ?_
    refine dg_s (pc' := 83) [.ref x0, .ref (x0 + 1)] rfl (fun _ => rfl) rfl ?_
    refine dg_s (pc' := 86) [.int (m.1 x0 0), .ref (x0 + 1)] rfl (fun _ => rfl) rfl ?_
    refine dg_s (pc' := 87) [.int x1, .int (m.1 x0 0), .ref (x0 + 1)] rfl (fun _ => rfl) rfl ?_
    refine dg_m (pc' := 88) (dc_wi m (x0 + 1) (Int32.toNatClampNeg (m.1 x0 0)) x1) [] rfl (fun _ => rfl) rfl ?_
    refine dg_s (pc' := 89) [.ref x0] rfl (fun _ => rfl) rfl ?_
    refine dg_s (pc' := 92) [.ref (x0 + 3)] rfl (fun _ => rfl) rfl ?_
    refine dg_s (pc' := 93) [.ref x0, .ref (x0 + 3)] rfl (fun _ => rfl) rfl ?_
    refine dg_s (pc' := 96) [.int ((dc_wi m (x0 + 1) (Int32.toNatClampNeg (m.1 x0 0)) x1).1 x0 0), .ref (x0 + 3)] rfl (fun _ => rfl) rfl ?_
    refine dg_s (pc' := 97) [.int x2, .int ((dc_wi m (x0 + 1) (Int32.toNatClampNeg (m.1 x0 0)) x1).1 x0 0), .ref (x0 + 3)] rfl (fun _ => rfl) rfl ?_
    refine dg_m (pc' := 98) (dc_wi (dc_wi m (x0 + 1) (Int32.toNatClampNeg (m.1 x0 0)) x1) (x0 + 3) (Int32.toNatClampNeg ((dc_wi m (x0 + 1) (Int32.toNatClampNeg (m.1 x0 0)) x1).1 x0 0)) x2) [] rfl (fun _ => rfl) rfl ?_
    refine dg_s (pc' := 99) [.ref x0] rfl (fun _ => rfl) rfl ?_
    refine dg_s (pc' := 102) [.ref (x0 + 6)] rfl (fun _ => rfl) rfl ?_
    refine dg_s (pc' := 103) [.int x3, .ref (x0 + 6)] rfl (fun _ => rfl) rfl ?_
    refine dg_s (pc' := 104) [.ref x0, .int x3, .ref (x0 + 6)] rfl (fun _ => rfl) rfl ?_
    refine dg_s (pc' := 107) [.int ((dc_wi (dc_wi m (x0 + 1) (Int32.toNatClampNeg (m.1 x0 0)) x1) (x0 + 3) (Int32.toNatClampNeg ((dc_wi m (x0 + 1) (Int32.toNatClampNeg (m.1 x0 0)) x1).1 x0 0)) x2).1 x0 0), .int x3, .ref (x0 + 6)] rfl (fun _ => rfl) rfl ?_
    refine dg_s (pc' := 108) [.int (1 : Int32), .int ((dc_wi (dc_wi m (x0 + 1) (Int32.toNatClampNeg (m.1 x0 0)) x1) (x0 + 3) (Int32.toNatClampNeg ((dc_wi m (x0 + 1) (Int32.toNatClampNeg (m.1 x0 0)) x1).1 x0 0)) x2).1 x0 0), .int x3, .ref (x0 + 6)] rfl (fun _ => rfl) rfl ?_
    refine dg_s (pc' := 109) [.int (((dc_wi (dc_wi m (x0 + 1) (Int32.toNatClampNeg (m.1 x0 0)) x1) (x0 + 3) (Int32.toNatClampNeg ((dc_wi m (x0 + 1) (Int32.toNatClampNeg (m.1 x0 0)) x1).1 x0 0)) x2).1 x0 0) + (1 : Int32)), .int x3, .ref (x0 + 6)] rfl (fun _ => rfl) rfl ?_
    refine dg_m (pc' := 110) (dc_wi (dc_wi (dc_wi m (x0 + 1) (Int32.toNatClampNeg (m.1 x0 0)) x1) (x0 + 3) (Int32.toNatClampNeg ((dc_wi m (x0 + 1) (Int32.toNatClampNeg (m.1 x0 0)) x1).1 x0 0)) x2) (x0 + 6) (Int32.toNatClampNeg x3) (((dc_wi (dc_wi m (x0 + 1) (Int32.toNatClampNeg (m.1 x0 0)) x1) (x0 + 3) (Int32.toNatClampNeg ((dc_wi m (x0 + 1) (Int32.toNatClampNeg (m.1 x0 0)) x1).1 x0 0)) x2).1 x0 0) + (1 : Int32))) [] rfl (fun _ => rfl) rfl ?_
    refine dg_s (pc' := 111) [.ref x0] rfl (fun _ => rfl) rfl ?_
    refine dg_s (pc' := 112) [.ref x0, .ref x0] rfl (fun _ => rfl) rfl ?_
    refine dg_s (pc' := 115) [.int ((dc_wi (dc_wi (dc_wi m (x0 + 1) (Int32.toNatClampNeg (m.1 x0 0)) x1) (x0 + 3) (Int32.toNatClampNeg ((dc_wi m (x0 + 1) (Int32.toNatClampNeg (m.1 x0 0)) x1).1 x0 0)) x2) (x0 + 6) (Int32.toNatClampNeg x3) (((dc_wi (dc_wi m (x0 + 1) (Int32.toNatClampNeg (m.1 x0 0)) x1) (x0 + 3) (Int32.toNatClampNeg ((dc_wi m (x0 + 1) (Int32.toNatClampNeg (m.1 x0 0)) x1).1 x0 0)) x2).1 x0 0) + (1 : Int32))).1 x0 0), .ref x0] rfl (fun _ => rfl) rfl ?_
    refine dg_s (pc' := 116) [.int ((dc_wi (dc_wi (dc_wi m (x0 + 1) (Int32.toNatClampNeg (m.1 x0 0)) x1) (x0 + 3) (Int32.toNatClampNeg ((dc_wi m (x0 + 1) (Int32.toNatClampNeg (m.1 x0 0)) x1).1 x0 0)) x2) (x0 + 6) (Int32.toNatClampNeg x3) (((dc_wi (dc_wi m (x0 + 1) (Int32.toNatClampNeg (m.1 x0 0)) x1) (x0 + 3) (Int32.toNatClampNeg ((dc_wi m (x0 + 1) (Int32.toNatClampNeg (m.1 x0 0)) x1).1 x0 0)) x2).1 x0 0) + (1 : Int32))).1 x0 0), .ref x0, .int ((dc_wi (dc_wi (dc_wi m (x0 + 1) (Int32.toNatClampNeg (m.1 x0 0)) x1) (x0 + 3) (Int32.toNatClampNeg ((dc_wi m (x0 + 1) (Int32.toNatClampNeg (m.1 x0 0)) x1).1 x0 0)) x2) (x0 + 6) (Int32.toNatClampNeg x3) (((dc_wi (dc_wi m (x0 + 1) (Int32.toNatClampNeg (m.1 x0 0)) x1) (x0 + 3) (Int32.toNatClampNeg ((dc_wi m (x0 + 1) (Int32.toNatClampNeg (m.1 x0 0)) x1).1 x0 0)) x2).1 x0 0) + (1 : Int32))).1 x0 0)] rfl (fun _ => rfl) rfl ?_
    refine dg_s (pc' := 117) [.int (1 : Int32), .int ((dc_wi (dc_wi (dc_wi m (x0 + 1) (Int32.toNatClampNeg (m.1 x0 0)) x1) (x0 + 3) (Int32.toNatClampNeg ((dc_wi m (x0 + 1) (Int32.toNatClampNeg (m.1 x0 0)) x1).1 x0 0)) x2) (x0 + 6) (Int32.toNatClampNeg x3) (((dc_wi (dc_wi m (x0 + 1) (Int32.toNatClampNeg (m.1 x0 0)) x1) (x0 + 3) (Int32.toNatClampNeg ((dc_wi m (x0 + 1) (Int32.toNatClampNeg (m.1 x0 0)) x1).1 x0 0)) x2).1 x0 0) + (1 : Int32))).1 x0 0), .ref x0, .int ((dc_wi (dc_wi (dc_wi m (x0 + 1) (Int32.toNatClampNeg (m.1 x0 0)) x1) (x0 + 3) (Int32.toNatClampNeg ((dc_wi m (x0 + 1) (Int32.toNatClampNeg (m.1 x0 0)) x1).1 x0 0)) x2) (x0 + 6) (Int32.toNatClampNeg x3) (((dc_wi (dc_wi m (x0 + 1) (Int32.toNatClampNeg (m.1 x0 0)) x1) (x0 + 3) (Int32.toNatClampNeg ((dc_wi m (x0 + 1) (Int32.toNatClampNeg (m.1 x0 0)) x1).1 x0 0)) x2).1 x0 0) + (1 : Int32))).1 x0 0)] rfl (fun _ => rfl) rfl ?_
    refine dg_s (pc' := 118) [.int (((dc_wi (dc_wi (dc_wi m (x0 + 1) (Int32.toNatClampNeg (m.1 x0 0)) x1) (x0 + 3) (Int32.toNatClampNeg ((dc_wi m (x0 + 1) (Int32.toNatClampNeg (m.1 x0 0)) x1).1 x0 0)) x2) (x0 + 6) (Int32.toNatClampNeg x3) (((dc_wi (dc_wi m (x0 + 1) (Int32.toNatClampNeg (m.1 x0 0)) x1) (x0 + 3) (Int32.toNatClampNeg ((dc_wi m (x0 + 1) (Int32.toNatClampNeg (m.1 x0 0)) x1).1 x0 0)) x2).1 x0 0) + (1 : Int32))).1 x0 0) + (1 : Int32)), .ref x0, .int ((dc_wi (dc_wi (dc_wi m (x0 + 1) (Int32.toNatClampNeg (m.1 x0 0)) x1) (x0 + 3) (Int32.toNatClampNeg ((dc_wi m (x0 + 1) (Int32.toNatClampNeg (m.1 x0 0)) x1).1 x0 0)) x2) (x0 + 6) (Int32.toNatClampNeg x3) (((dc_wi (dc_wi m (x0 + 1) (Int32.toNatClampNeg (m.1 x0 0)) x1) (x0 + 3) (Int32.toNatClampNeg ((dc_wi m (x0 + 1) (Int32.toNatClampNeg (m.1 x0 0)) x1).1 x0 0)) x2).1 x0 0) + (1 : Int32))).1 x0 0)] rfl (fun _ => rfl) rfl ?_
    refine dg_m (pc' := 121) (dc_wi (dc_wi (dc_wi (dc_wi m (x0 + 1) (Int32.toNatClampNeg (m.1 x0 0)) x1) (x0 + 3) (Int32.toNatClampNeg ((dc_wi m (x0 + 1) (Int32.toNatClampNeg (m.1 x0 0)) x1).1 x0 0)) x2) (x0 + 6) (Int32.toNatClampNeg x3) (((dc_wi (dc_wi m (x0 + 1) (Int32.toNatClampNeg (m.1 x0 0)) x1) (x0 + 3) (Int32.toNatClampNeg ((dc_wi m (x0 + 1) (Int32.toNatClampNeg (m.1 x0 0)) x1).1 x0 0)) x2).1 x0 0) + (1 : Int32))) x0 0 (((dc_wi (dc_wi (dc_wi m (x0 + 1) (Int32.toNatClampNeg (m.1 x0 0)) x1) (x0 + 3) (Int32.toNatClampNeg ((dc_wi m (x0 + 1) (Int32.toNatClampNeg (m.1 x0 0)) x1).1 x0 0)) x2) (x0 + 6) (Int32.toNatClampNeg x3) (((dc_wi (dc_wi m (x0 + 1) (Int32.toNatClampNeg (m.1 x0 0)) x1) (x0 + 3) (Int32.toNatClampNeg ((dc_wi m (x0 + 1) (Int32.toNatClampNeg (m.1 x0 0)) x1).1 x0 0)) x2).1 x0 0) + (1 : Int32))).1 x0 0) + (1 : Int32))) [.int ((dc_wi (dc_wi (dc_wi m (x0 + 1) (Int32.toNatClampNeg (m.1 x0 0)) x1) (x0 + 3) (Int32.toNatClampNeg ((dc_wi m (x0 + 1) (Int32.toNatClampNeg (m.1 x0 0)) x1).1 x0 0)) x2) (x0 + 6) (Int32.toNatClampNeg x3) (((dc_wi (dc_wi m (x0 + 1) (Int32.toNatClampNeg (m.1 x0 0)) x1) (x0 + 3) (Int32.toNatClampNeg ((dc_wi m (x0 + 1) (Int32.toNatClampNeg (m.1 x0 0)) x1).1 x0 0)) x2).1 x0 0) + (1 : Int32))).1 x0 0)] rfl (fun _ => rfl) rfl ?_
    exact dw_r (some (.inl (some (.int ((dc_wi (dc_wi (dc_wi m (x0 + 1) (Int32.toNatClampNeg (m.1 x0 0)) x1) (x0 + 3) (Int32.toNatClampNeg ((dc_wi m (x0 + 1) (Int32.toNatClampNeg (m.1 x0 0)) x1).1 x0 0)) x2) (x0 + 6) (Int32.toNatClampNeg x3) (((dc_wi (dc_wi m (x0 + 1) (Int32.toNatClampNeg (m.1 x0 0)) x1) (x0 + 3) (Int32.toNatClampNeg ((dc_wi m (x0 + 1) (Int32.toNatClampNeg (m.1 x0 0)) x1).1 x0 0)) x2).1 x0 0) + (1 : Int32))).1 x0 0)), (dc_wi (dc_wi (dc_wi (dc_wi m (x0 + 1) (Int32.toNatClampNeg (m.1 x0 0)) x1) (x0 + 3) (Int32.toNatClampNeg ((dc_wi m (x0 + 1) (Int32.toNatClampNeg (m.1 x0 0)) x1).1 x0 0)) x2) (x0 + 6) (Int32.toNatClampNeg x3) (((dc_wi (dc_wi m (x0 + 1) (Int32.toNatClampNeg (m.1 x0 0)) x1) (x0 + 3) (Int32.toNatClampNeg ((dc_wi m (x0 + 1) (Int32.toNatClampNeg (m.1 x0 0)) x1).1 x0 0)) x2).1 x0 0) + (1 : Int32))) x0 0 (((dc_wi (dc_wi (dc_wi m (x0 + 1) (Int32.toNatClampNeg (m.1 x0 0)) x1) (x0 + 3) (Int32.toNatClampNeg ((dc_wi m (x0 + 1) (Int32.toNatClampNeg (m.1 x0 0)) x1).1 x0 0)) x2) (x0 + 6) (Int32.toNatClampNeg x3) (((dc_wi (dc_wi m (x0 + 1) (Int32.toNatClampNeg (m.1 x0 0)) x1) (x0 + 3) (Int32.toNatClampNeg ((dc_wi m (x0 + 1) (Int32.toNatClampNeg (m.1 x0 0)) x1).1 x0 0)) x2).1 x0 0) + (1 : Int32))).1 x0 0) + (1 : Int32)))))) rfl (fun _ => rfl) (kR _ _)
  · refine dw_g rfl ?_
    refine dg_s (pc' := 77) [.int (-4 : Int32)] rfl (fun _ => rfl) rfl ?_
    exact dw_r (some (.inl (some (.int (-4 : Int32)), m))) rfl (fun _ => rfl) (kR _ _)
noncomputable def d_X7_meet_l11b (x0 : Nat) (x1 : Int32) (x2 : Int32) (x3 : Int32) (x4 : Int32) (m : dc_M) : Option ((Int32 × Int32) ⊕ (Int32 × dc_M)) :=
  (if 512 ≤ (Int32.toInt x4) then ((d_X7_meet_b65 x0 x1 x2 x3 m).map (fun z => Sum.inr (z))) else (if 0 ≤ (Int32.toInt ((m.1 (x0 + 6) (Int32.toNatClampNeg x3)) - (1 : Int32))) then (if ¬ (Int32.toInt (m.1 (x0 + 1) (Int32.toNatClampNeg ((m.1 (x0 + 6) (Int32.toNatClampNeg x3)) - (1 : Int32))))) = (Int32.toInt x1) then some (Sum.inl (((x3 + (1 : Int32)) &&& (511 : Int32)), (x4 + (1 : Int32)))) else some (Sum.inr ((((m.1 (x0 + 6) (Int32.toNatClampNeg x3)) - (1 : Int32)), m)))) else ((d_X7_meet_b65 x0 x1 x2 x3 m).map (fun z => Sum.inr (z)))))
noncomputable def d_X7_meet_l11s (x0 : Nat) (x1 : Int32) (x2 : Int32) (m : dc_M) : (Int32 × Int32) → Option ((Int32 × Int32) ⊕ (Int32 × dc_M)) := fun s => d_X7_meet_l11b x0 x1 x2 s.1 s.2 m
noncomputable def d_X7_meet_l11 (x0 : Nat) (x1 : Int32) (x2 : Int32) (x3 : Int32) (x4 : Int32) (m : dc_M) : Option (Int32 × dc_M) := dc_lp (d_X7_meet_l11s x0 x1 x2 m) (x3, x4)
set_option maxHeartbeats 8000000 in
theorem k_X7_meet_l11 {u : Nat} {Φ : (Option (Int32 × dc_M)) → Option Value → dc_M → Prop} (x0 : Nat) (x1 : Int32) (x2 : Int32) (m : dc_M) (kR : ∀ (v : Int32) (m : dc_M), Φ (some ((v, m))) (some (.int v)) m) : ∀ (N : Nat), ∀ (x3 : Int32) (x4 : Int32) (lv : ab_L), ab_lk lv 0 = some (.ref x0) → ab_lk lv 1 = some (.int x1) → ab_lk lv 2 = some (.int x2) → ab_lk lv 3 = some (.int x3) → ab_lk lv 4 = some (.int x4) → dc_pv u N ab_M_X7_meet 11 lv [] m (Φ (d_X7_meet_l11 x0 x1 x2 x3 x4 m)) := by
  intro N
  induction N with
  | zero => intros; exact dc_pv_zero
  | succ N ih =>
    intro x3 x4 lv f0 f1 f2 f3 f4
    refine dc_ok (C := C_X7_meet) (S := S_X7_meet) CO_X7_meet 400 11 [(0, .ref x0), (1, .int x1), (2, .int x2), (3, .int x3), (4, .int x4)] lv [] m (dc_sub_cons f0 (dc_sub_cons f1 (dc_sub_cons f2 (dc_sub_cons f3 (dc_sub_cons f4 (dc_sub_nil)))))) ?_
    unfold d_X7_meet_l11
    rw [dc_lp_eq]
    show (fun t x => dc_lf u N ab_M_X7_meet (Φ (Option.bind t (dc_bk (d_X7_meet_l11s x0 x1 x2 m)))) x) (d_X7_meet_l11b x0 x1 x2 x3 x4 m) _
    dsimp only
    unfold d_X7_meet_l11b
    refine dg_s (pc' := 13) [.int x4] rfl (fun _ => rfl) rfl ?_
    refine dg_s (pc' := 16) [.int (512 : Int32), .int x4] rfl (fun _ => rfl) rfl ?_
    refine dw_if (fun t => Φ (Option.bind t (dc_bk (d_X7_meet_l11s x0 x1 x2 m)))) (512 ≤ (Int32.toInt x4)) [] 65 19 rfl (fun _ => rfl) (fun c0 => ?_) (fun c0 => ?_)
    · exact dw_j rfl (fun lv1 hv => k_X7_meet_b65 (Φ := (fun t => Φ (Option.bind (t.map (fun z => Sum.inr (z))) (dc_bk (d_X7_meet_l11s x0 x1 x2 m))))) x0 x1 x2 x3 m (fun _a _b => kR _a _b)  (hv.1 _ rfl) (hv.2.1 _ rfl) (hv.2.2.1 _ rfl) (hv.2.2.2.1 _ rfl))
    · refine dw_g rfl ?_
      refine dg_s (pc' := 20) [.ref x0] rfl (fun _ => rfl) rfl ?_
      refine dg_s (pc' := 23) [.ref (x0 + 6)] rfl (fun _ => rfl) rfl ?_
      refine dg_s (pc' := 24) [.int x3, .ref (x0 + 6)] rfl (fun _ => rfl) rfl ?_
      refine dg_s (pc' := 25) [.int (m.1 (x0 + 6) (Int32.toNatClampNeg x3))] rfl (fun _ => rfl) rfl ?_
      refine dg_s (pc' := 26) [.int (1 : Int32), .int (m.1 (x0 + 6) (Int32.toNatClampNeg x3))] rfl (fun _ => rfl) rfl ?_
      refine dg_s (pc' := 27) [.int ((m.1 (x0 + 6) (Int32.toNatClampNeg x3)) - (1 : Int32))] rfl (fun _ => rfl) rfl ?_
      refine dg_L (pc' := 29) [(5, .int ((m.1 (x0 + 6) (Int32.toNatClampNeg x3)) - (1 : Int32))), (0, .ref x0), (1, .int x1), (2, .int x2), (3, .int x3), (4, .int x4)] [] rfl (fun _ => rfl) rfl ?_
      refine dg_s (pc' := 31) [.int ((m.1 (x0 + 6) (Int32.toNatClampNeg x3)) - (1 : Int32))] rfl (fun _ => rfl) rfl ?_
      refine dw_if (fun t => Φ (Option.bind t (dc_bk (d_X7_meet_l11s x0 x1 x2 m)))) (0 ≤ (Int32.toInt ((m.1 (x0 + 6) (Int32.toNatClampNeg x3)) - (1 : Int32)))) [] 37 34 rfl (fun _ => rfl) (fun c1 => ?_) (fun c1 => ?_)
      · refine dw_g rfl ?_
        refine dg_s (pc' := 38) [.ref x0] rfl (fun _ => rfl) rfl ?_
        refine dg_s (pc' := 41) [.ref (x0 + 1)] rfl (fun _ => rfl) rfl ?_
        refine dg_s (pc' := 43) [.int ((m.1 (x0 + 6) (Int32.toNatClampNeg x3)) - (1 : Int32)), .ref (x0 + 1)] rfl (fun _ => rfl) rfl ?_
        refine dg_s (pc' := 44) [.int (m.1 (x0 + 1) (Int32.toNatClampNeg ((m.1 (x0 + 6) (Int32.toNatClampNeg x3)) - (1 : Int32))))] rfl (fun _ => rfl) rfl ?_
        refine dg_s (pc' := 45) [.int x1, .int (m.1 (x0 + 1) (Int32.toNatClampNeg ((m.1 (x0 + 6) (Int32.toNatClampNeg x3)) - (1 : Int32))))] rfl (fun _ => rfl) rfl ?_
        refine dw_if (fun t => Φ (Option.bind t (dc_bk (d_X7_meet_l11s x0 x1 x2 m)))) (¬ (Int32.toInt (m.1 (x0 + 1) (Int32.toNatClampNeg ((m.1 (x0 + 6) (Int32.toNatClampNeg x3)) - (1 : Int32))))) = (Int32.toInt x1)) [] 51 48 rfl (fun _ => rfl) (fun c2 => ?_) (fun c2 => ?_)
        · refine dw_g rfl ?_
          refine dg_s (pc' := 52) [.int x3] rfl (fun _ => rfl) rfl ?_
          refine dg_s (pc' := 53) [.int (1 : Int32), .int x3] rfl (fun _ => rfl) rfl ?_
          refine dg_s (pc' := 54) [.int (x3 + (1 : Int32))] rfl (fun _ => rfl) rfl ?_
          refine dg_s (pc' := 57) [.int (511 : Int32), .int (x3 + (1 : Int32))] rfl (fun _ => rfl) rfl ?_
          refine dg_s (pc' := 58) [.int ((x3 + (1 : Int32)) &&& (511 : Int32))] rfl (fun _ => rfl) rfl ?_
          refine dg_L (pc' := 59) [(3, .int ((x3 + (1 : Int32)) &&& (511 : Int32))), (5, .int ((m.1 (x0 + 6) (Int32.toNatClampNeg x3)) - (1 : Int32))), (0, .ref x0), (1, .int x1), (2, .int x2), (4, .int x4)] [] rfl (fun _ => rfl) rfl ?_
          refine dg_L (pc' := 62) [(4, .int (x4 + (1 : Int32))), (3, .int ((x3 + (1 : Int32)) &&& (511 : Int32))), (5, .int ((m.1 (x0 + 6) (Int32.toNatClampNeg x3)) - (1 : Int32))), (0, .ref x0), (1, .int x1), (2, .int x2)] [] rfl (fun _ => rfl) rfl ?_
          refine dw_s (pc' := 11) [] rfl (fun _ => rfl) ?_
          exact dw_j rfl (fun lv1 hv => ih ((x3 + (1 : Int32)) &&& (511 : Int32)) (x4 + (1 : Int32)) lv1 (hv.1 _ rfl) (hv.2.1 _ rfl) (hv.2.2.1 _ rfl) (hv.2.2.2.1 _ rfl) (hv.2.2.2.2.1 _ rfl))
        · refine dw_g rfl ?_
          refine dg_s (pc' := 50) [.int ((m.1 (x0 + 6) (Int32.toNatClampNeg x3)) - (1 : Int32))] rfl (fun _ => rfl) rfl ?_
          exact dw_r (some (.inl (some (.int ((m.1 (x0 + 6) (Int32.toNatClampNeg x3)) - (1 : Int32))), m))) rfl (fun _ => rfl) (kR _ _)
      · refine dw_g rfl ?_
        refine dw_s (pc' := 65) [] rfl (fun _ => rfl) ?_
        exact dw_j rfl (fun lv1 hv => k_X7_meet_b65 (Φ := (fun t => Φ (Option.bind (t.map (fun z => Sum.inr (z))) (dc_bk (d_X7_meet_l11s x0 x1 x2 m))))) x0 x1 x2 x3 m (fun _a _b => kR _a _b)  (hv.1 _ rfl) (hv.2.1 _ rfl) (hv.2.2.1 _ rfl) (hv.2.2.2.1 _ rfl))
noncomputable def d_X7_meet (x0 : Nat) (x1 : Int32) (x2 : Int32) (m : dc_M) : Option (Int32 × dc_M) :=
  (d_X7_meet_l11 x0 x1 x2 (((x1 * (-1640531535 : Int32)).toUInt32 >>> ((23 : Int32).toUInt32 &&& Int32.toUInt32 31)).toInt32) (0 : Int32) m)
set_option maxHeartbeats 8000000 in
theorem k_X7_meet {u : Nat} {N : Nat} {Φ : (Option (Int32 × dc_M)) → Option Value → dc_M → Prop} (x0 : Nat) (x1 : Int32) (x2 : Int32) (m : dc_M) (kR : ∀ (v : Int32) (m : dc_M), Φ (some ((v, m))) (some (.int v)) m)  {lv : ab_L} (f0 : ab_lk lv 0 = some (.ref x0)) (f1 : ab_lk lv 1 = some (.int x1)) (f2 : ab_lk lv 2 = some (.int x2)) : dc_pv u N ab_M_X7_meet 0 lv [] m (Φ (d_X7_meet x0 x1 x2 m)) := by
  refine dc_pv.mono (dc_ok (C := C_X7_meet) (S := S_X7_meet) CO_X7_meet 400 0 [(0, .ref x0), (1, .int x1), (2, .int x2)] lv [] m (dc_sub_cons f0 (dc_sub_cons f1 (dc_sub_cons f2 (dc_sub_nil)))) ?_) (Nat.le_succ N)
  unfold d_X7_meet
  refine dg_s (pc' := 1) [.int x1] rfl (fun _ => rfl) rfl ?_
  refine dg_s (pc' := 3) [.int (-1640531535 : Int32), .int x1] rfl (fun _ => rfl) rfl ?_
  refine dg_s (pc' := 4) [.int (x1 * (-1640531535 : Int32))] rfl (fun _ => rfl) rfl ?_
  refine dg_s (pc' := 6) [.int (23 : Int32), .int (x1 * (-1640531535 : Int32))] rfl (fun _ => rfl) rfl ?_
  refine dg_s (pc' := 7) [.int (((x1 * (-1640531535 : Int32)).toUInt32 >>> ((23 : Int32).toUInt32 &&& Int32.toUInt32 31)).toInt32)] rfl (fun _ => rfl) rfl ?_
  refine dg_L (pc' := 8) [(3, .int (((x1 * (-1640531535 : Int32)).toUInt32 >>> ((23 : Int32).toUInt32 &&& Int32.toUInt32 31)).toInt32)), (0, .ref x0), (1, .int x1), (2, .int x2)] [] rfl (fun _ => rfl) rfl ?_
  refine dg_s (pc' := 9) [.int (0 : Int32)] rfl (fun _ => rfl) rfl ?_
  refine dw_L (pc' := 11) [(4, .int (0 : Int32)), (3, .int (((x1 * (-1640531535 : Int32)).toUInt32 >>> ((23 : Int32).toUInt32 &&& Int32.toUInt32 31)).toInt32)), (0, .ref x0), (1, .int x1), (2, .int x2)] [] rfl (fun _ => rfl) ?_
  exact dw_j rfl (fun lv1 hv => k_X7_meet_l11 (Φ := (fun t => Φ t)) x0 x1 x2 m (fun _a _b => kR _a _b) N  (((x1 * (-1640531535 : Int32)).toUInt32 >>> ((23 : Int32).toUInt32 &&& Int32.toUInt32 31)).toInt32) (0 : Int32) lv1 (hv.1 _ rfl) (hv.2.1 _ rfl) (hv.2.2.1 _ rfl) (hv.2.2.2.1 _ rfl) (hv.2.2.2.2.1 _ rfl))
noncomputable def H_X7_meet : dc_H := fun As m k => match As with
  | [.ref x0, .int x1, .int x2] => (d_X7_meet x0 x1 x2 m).bind (fun q => k (some (.int q.1)) q.2)
  | _ => dc_kz
theorem H_X7_meet_ok {u : Nat} : dc_cok u 90 H_X7_meet := fun M' hG N As m k P hz hP => by
  obtain rfl : ab_M_X7_meet = M' := Option.some.inj hG
  unfold H_X7_meet at hP
  split at hP
  · rename_i x0 x1 x2
    exact dc_pv.imp (k_X7_meet (Φ := fun (t : Option (Int32 × dc_M)) r m' => P (t.bind (fun q => k (some (.int q.1)) q.2)) → P (k r m')) x0 x1 x2 m (fun _ _ h => h) rfl rfl rfl) (fun r m' h => h hP)
  · exact absurd hP hz
noncomputable def C_X7_expand : List (Nat × dc_H) := [(39, H_X3_after), (36, H_X3_isReady), (37, H_X3_isUnsafe), (90, H_X7_meet)]
theorem CO_X7_expand {u : Nat} : dc_CO u C_X7_expand := dc_CO_cons H_X3_after_ok (dc_CO_cons H_X3_isReady_ok (dc_CO_cons H_X3_isUnsafe_ok (dc_CO_cons H_X7_meet_ok (dc_CO_nil))))
def S_X7_expand : List (Nat × List Nat) := [(16, [0, 1, 2, 3, 4, 5, 6]), (136, [0, 2, 4, 5])]
noncomputable def d_X7_expand_b136 (x0 : Nat) (x2 : Int32) (x4 : Int32) (x5 : Int32) (m : dc_M) : Option dc_M :=
  some ((dc_wi (dc_wi (dc_wi m (x0 + 2) (Int32.toNatClampNeg x2) x4) (x0 + 4) (Int32.toNatClampNeg x2) x5) x0 2 (((dc_wi (dc_wi m (x0 + 2) (Int32.toNatClampNeg x2) x4) (x0 + 4) (Int32.toNatClampNeg x2) x5).1 x0 2) ||| x4)))
set_option maxHeartbeats 8000000 in
theorem k_X7_expand_b136 {u : Nat} {N : Nat} {Φ : (Option dc_M) → Option Value → dc_M → Prop} (x0 : Nat) (x2 : Int32) (x4 : Int32) (x5 : Int32) (m : dc_M) (kR : ∀  (m : dc_M), Φ (some (m)) (none) m)  {lv : ab_L} (f0 : ab_lk lv 0 = some (.ref x0)) (f2 : ab_lk lv 2 = some (.int x2)) (f4 : ab_lk lv 4 = some (.int x4)) (f5 : ab_lk lv 5 = some (.int x5)) : dc_pv u N ab_M_X7_expand 136 lv [] m (Φ (d_X7_expand_b136 x0 x2 x4 x5 m)) := by
  refine dc_pv.mono (dc_ok (C := C_X7_expand) (S := S_X7_expand) CO_X7_expand 400 136 [(0, .ref x0), (2, .int x2), (4, .int x4), (5, .int x5)] lv [] m (dc_sub_cons f0 (dc_sub_cons f2 (dc_sub_cons f4 (dc_sub_cons f5 (dc_sub_nil))))) ?_) (Nat.le_succ N)
  unfold d_X7_expand_b136
  refine dg_s (pc' := 137) [.ref x0] rfl (fun _ => rfl) rfl ?_
  refine dg_s (pc' := 140) [.ref (x0 + 2)] rfl (fun _ => rfl) rfl ?_
  refine dg_s (pc' := 141) [.int x2, .ref (x0 + 2)] rfl (fun _ => rfl) rfl ?_
  refine dg_s (pc' := 143) [.int x4, .int x2, .ref (x0 + 2)] rfl (fun _ => rfl) rfl ?_
  refine dg_m (pc' := 144) (dc_wi m (x0 + 2) (Int32.toNatClampNeg x2) x4) [] rfl (fun _ => rfl) rfl ?_
  refine dg_s (pc' := 145) [.ref x0] rfl (fun _ => rfl) rfl ?_
  refine dg_s (pc' := 148) [.ref (x0 + 4)] rfl (fun _ => rfl) rfl ?_
  refine dg_s (pc' := 149) [.int x2, .ref (x0 + 4)] rfl (fun _ => rfl) rfl ?_
  refine dg_s (pc' := 151) [.int x5, .int x2, .ref (x0 + 4)] rfl (fun _ => rfl) rfl ?_
  refine dg_m (pc' := 152) (dc_wi (dc_wi m (x0 + 2) (Int32.toNatClampNeg x2) x4) (x0 + 4) (Int32.toNatClampNeg x2) x5) [] rfl (fun _ => rfl) rfl ?_
  refine dg_s (pc' := 153) [.ref x0] rfl (fun _ => rfl) rfl ?_
  refine dg_s (pc' := 154) [.ref x0, .ref x0] rfl (fun _ => rfl) rfl ?_
  refine dg_s (pc' := 157) [.int ((dc_wi (dc_wi m (x0 + 2) (Int32.toNatClampNeg x2) x4) (x0 + 4) (Int32.toNatClampNeg x2) x5).1 x0 2), .ref x0] rfl (fun _ => rfl) rfl ?_
  refine dg_s (pc' := 159) [.int x4, .int ((dc_wi (dc_wi m (x0 + 2) (Int32.toNatClampNeg x2) x4) (x0 + 4) (Int32.toNatClampNeg x2) x5).1 x0 2), .ref x0] rfl (fun _ => rfl) rfl ?_
  refine dg_s (pc' := 160) [.int (((dc_wi (dc_wi m (x0 + 2) (Int32.toNatClampNeg x2) x4) (x0 + 4) (Int32.toNatClampNeg x2) x5).1 x0 2) ||| x4), .ref x0] rfl (fun _ => rfl) rfl ?_
  refine dg_m (pc' := 163) (dc_wi (dc_wi (dc_wi m (x0 + 2) (Int32.toNatClampNeg x2) x4) (x0 + 4) (Int32.toNatClampNeg x2) x5) x0 2 (((dc_wi (dc_wi m (x0 + 2) (Int32.toNatClampNeg x2) x4) (x0 + 4) (Int32.toNatClampNeg x2) x5).1 x0 2) ||| x4)) [] rfl (fun _ => rfl) rfl ?_
  exact dw_r (some (.inl (none, (dc_wi (dc_wi (dc_wi m (x0 + 2) (Int32.toNatClampNeg x2) x4) (x0 + 4) (Int32.toNatClampNeg x2) x5) x0 2 (((dc_wi (dc_wi m (x0 + 2) (Int32.toNatClampNeg x2) x4) (x0 + 4) (Int32.toNatClampNeg x2) x5).1 x0 2) ||| x4))))) rfl (fun _ => rfl) (kR _)
noncomputable def d_X7_expand_l16b (x0 : Nat) (x1 : Nat) (x2 : Int32) (x3 : Int32) (x4 : Int32) (x5 : Int32) (x6 : Int32) (m : dc_M) : Option ((Int32 × Int32 × Int32 × dc_M) ⊕ dc_M) :=
  (if (Int32.toInt (m.1 x1 1)) ≤ (Int32.toInt x6) then ((d_X7_expand_b136 x0 x2 x4 x5 m).map (fun z => Sum.inr (z))) else (if ¬ (Int32.toInt (d_X3_isReady x1 x3 x6 m)) = 0 then (if (Int32.toInt (d_X3_isUnsafe x1 x3 x6 m)) = 0 then ((d_X7_meet x0 (d_X3_after x1 x3 x6 m) ((m.1 (x0 + 3) (Int32.toNatClampNeg x2)) ^^^ ((1 : Int32) <<< ((m.1 (x1 + 3) (Int32.toNatClampNeg x6)) &&& 31))) m).bind (fun q1 => (if 0 ≤ (Int32.toInt q1.1) then some (Sum.inl ((x4 ||| ((1 : Int32) <<< (x6 &&& 31))), (x5 ||| ((1 : Int32) <<< ((m.1 (x1 + 3) (Int32.toNatClampNeg x6)) &&& 31))), (x6 + (1 : Int32)), (dc_wi q1.2 (x0 + 5) (Int32.toNatClampNeg ((x2 * (16 : Int32)) + x6)) q1.1))) else some (Sum.inr ((dc_wi q1.2 x0 1 (-6 : Int32))))))) else some (Sum.inr ((dc_wi m x0 1 (-2 : Int32))))) else some (Sum.inl (x4, x5, (x6 + (1 : Int32)), m))))
noncomputable def d_X7_expand_l16s (x0 : Nat) (x1 : Nat) (x2 : Int32) (x3 : Int32) : (Int32 × Int32 × Int32 × dc_M) → Option ((Int32 × Int32 × Int32 × dc_M) ⊕ dc_M) := fun s => d_X7_expand_l16b x0 x1 x2 x3 s.1 s.2.1 s.2.2.1 s.2.2.2
noncomputable def d_X7_expand_l16 (x0 : Nat) (x1 : Nat) (x2 : Int32) (x3 : Int32) (x4 : Int32) (x5 : Int32) (x6 : Int32) (m : dc_M) : Option dc_M := dc_lp (d_X7_expand_l16s x0 x1 x2 x3) (x4, x5, x6, m)
set_option maxHeartbeats 8000000 in
theorem k_X7_expand_l16 {u : Nat} {Φ : (Option dc_M) → Option Value → dc_M → Prop} (x0 : Nat) (x1 : Nat) (x2 : Int32) (x3 : Int32) (kR : ∀  (m : dc_M), Φ (some (m)) (none) m) : ∀ (N : Nat), ∀ (x4 : Int32) (x5 : Int32) (x6 : Int32) (m : dc_M) (lv : ab_L), ab_lk lv 0 = some (.ref x0) → ab_lk lv 1 = some (.ref x1) → ab_lk lv 2 = some (.int x2) → ab_lk lv 3 = some (.int x3) → ab_lk lv 4 = some (.int x4) → ab_lk lv 5 = some (.int x5) → ab_lk lv 6 = some (.int x6) → dc_pv u N ab_M_X7_expand 16 lv [] m (Φ (d_X7_expand_l16 x0 x1 x2 x3 x4 x5 x6 m)) := by
  intro N
  induction N with
  | zero => intros; exact dc_pv_zero
  | succ N ih =>
    intro x4 x5 x6 m lv f0 f1 f2 f3 f4 f5 f6
    refine dc_ok (C := C_X7_expand) (S := S_X7_expand) CO_X7_expand 400 16 [(0, .ref x0), (1, .ref x1), (2, .int x2), (3, .int x3), (4, .int x4), (5, .int x5), (6, .int x6)] lv [] m (dc_sub_cons f0 (dc_sub_cons f1 (dc_sub_cons f2 (dc_sub_cons f3 (dc_sub_cons f4 (dc_sub_cons f5 (dc_sub_cons f6 (dc_sub_nil)))))))) ?_
    unfold d_X7_expand_l16
    rw [dc_lp_eq]
    show (fun t x => dc_lf u N ab_M_X7_expand (Φ (Option.bind t (dc_bk (d_X7_expand_l16s x0 x1 x2 x3)))) x) (d_X7_expand_l16b x0 x1 x2 x3 x4 x5 x6 m) _
    dsimp only
    unfold d_X7_expand_l16b
    refine dg_s (pc' := 18) [.int x6] rfl (fun _ => rfl) rfl ?_
    refine dg_s (pc' := 19) [.ref x1, .int x6] rfl (fun _ => rfl) rfl ?_
    refine dg_s (pc' := 22) [.int (m.1 x1 1), .int x6] rfl (fun _ => rfl) rfl ?_
    refine dw_if (fun t => Φ (Option.bind t (dc_bk (d_X7_expand_l16s x0 x1 x2 x3)))) ((Int32.toInt (m.1 x1 1)) ≤ (Int32.toInt x6)) [] 136 25 rfl (fun _ => rfl) (fun c0 => ?_) (fun c0 => ?_)
    · exact dw_j rfl (fun lv1 hv => k_X7_expand_b136 (Φ := (fun t => Φ (Option.bind (t.map (fun z => Sum.inr (z))) (dc_bk (d_X7_expand_l16s x0 x1 x2 x3))))) x0 x2 x4 x5 m (fun _b => kR _b)  (hv.1 _ rfl) (hv.2.1 _ rfl) (hv.2.2.1 _ rfl) (hv.2.2.2.1 _ rfl))
    · refine dw_g rfl ?_
      refine dg_s (pc' := 26) [.ref x1] rfl (fun _ => rfl) rfl ?_
      refine dg_s (pc' := 27) [.int x3, .ref x1] rfl (fun _ => rfl) rfl ?_
      refine dg_s (pc' := 29) [.int x6, .int x3, .ref x1] rfl (fun _ => rfl) rfl ?_
      refine dg_s (pc' := 32) [.int (d_X3_isReady x1 x3 x6 m)] rfl (fun _ => rfl) rfl ?_
      refine dw_if (fun t => Φ (Option.bind t (dc_bk (d_X7_expand_l16s x0 x1 x2 x3)))) (¬ (Int32.toInt (d_X3_isReady x1 x3 x6 m)) = 0) [] 38 35 rfl (fun _ => rfl) (fun c1 => ?_) (fun c1 => ?_)
      · refine dw_g rfl ?_
        refine dg_s (pc' := 39) [.ref x1] rfl (fun _ => rfl) rfl ?_
        refine dg_s (pc' := 40) [.int x3, .ref x1] rfl (fun _ => rfl) rfl ?_
        refine dg_s (pc' := 42) [.int x6, .int x3, .ref x1] rfl (fun _ => rfl) rfl ?_
        refine dg_s (pc' := 45) [.int (d_X3_isUnsafe x1 x3 x6 m)] rfl (fun _ => rfl) rfl ?_
        refine dw_if (fun t => Φ (Option.bind t (dc_bk (d_X7_expand_l16s x0 x1 x2 x3)))) ((Int32.toInt (d_X3_isUnsafe x1 x3 x6 m)) = 0) [] 55 48 rfl (fun _ => rfl) (fun c2 => ?_) (fun c2 => ?_)
        · refine dw_g rfl ?_
          refine dg_s (pc' := 56) [.int (1 : Int32)] rfl (fun _ => rfl) rfl ?_
          refine dg_s (pc' := 57) [.ref x1, .int (1 : Int32)] rfl (fun _ => rfl) rfl ?_
          refine dg_s (pc' := 60) [.ref (x1 + 3), .int (1 : Int32)] rfl (fun _ => rfl) rfl ?_
          refine dg_s (pc' := 62) [.int x6, .ref (x1 + 3), .int (1 : Int32)] rfl (fun _ => rfl) rfl ?_
          refine dg_s (pc' := 63) [.int (m.1 (x1 + 3) (Int32.toNatClampNeg x6)), .int (1 : Int32)] rfl (fun _ => rfl) rfl ?_
          refine dg_s (pc' := 64) [.int ((1 : Int32) <<< ((m.1 (x1 + 3) (Int32.toNatClampNeg x6)) &&& 31))] rfl (fun _ => rfl) rfl ?_
          refine dg_L (pc' := 66) [(7, .int ((1 : Int32) <<< ((m.1 (x1 + 3) (Int32.toNatClampNeg x6)) &&& 31))), (0, .ref x0), (1, .ref x1), (2, .int x2), (3, .int x3), (4, .int x4), (5, .int x5), (6, .int x6)] [] rfl (fun _ => rfl) rfl ?_
          refine dg_s (pc' := 67) [.ref x0] rfl (fun _ => rfl) rfl ?_
          refine dg_s (pc' := 68) [.ref x1, .ref x0] rfl (fun _ => rfl) rfl ?_
          refine dg_s (pc' := 69) [.int x3, .ref x1, .ref x0] rfl (fun _ => rfl) rfl ?_
          refine dg_s (pc' := 71) [.int x6, .int x3, .ref x1, .ref x0] rfl (fun _ => rfl) rfl ?_
          refine dg_s (pc' := 74) [.int (d_X3_after x1 x3 x6 m), .ref x0] rfl (fun _ => rfl) rfl ?_
          refine dg_s (pc' := 75) [.ref x0, .int (d_X3_after x1 x3 x6 m), .ref x0] rfl (fun _ => rfl) rfl ?_
          refine dg_s (pc' := 78) [.ref (x0 + 3), .int (d_X3_after x1 x3 x6 m), .ref x0] rfl (fun _ => rfl) rfl ?_
          refine dg_s (pc' := 79) [.int x2, .ref (x0 + 3), .int (d_X3_after x1 x3 x6 m), .ref x0] rfl (fun _ => rfl) rfl ?_
          refine dg_s (pc' := 80) [.int (m.1 (x0 + 3) (Int32.toNatClampNeg x2)), .int (d_X3_after x1 x3 x6 m), .ref x0] rfl (fun _ => rfl) rfl ?_
          refine dg_s (pc' := 82) [.int ((1 : Int32) <<< ((m.1 (x1 + 3) (Int32.toNatClampNeg x6)) &&& 31)), .int (m.1 (x0 + 3) (Int32.toNatClampNeg x2)), .int (d_X3_after x1 x3 x6 m), .ref x0] rfl (fun _ => rfl) rfl ?_
          refine dg_s (pc' := 83) [.int ((m.1 (x0 + 3) (Int32.toNatClampNeg x2)) ^^^ ((1 : Int32) <<< ((m.1 (x1 + 3) (Int32.toNatClampNeg x6)) &&& 31))), .int (d_X3_after x1 x3 x6 m), .ref x0] rfl (fun _ => rfl) rfl ?_
          refine dw_b (fun t => Φ (Option.bind t (dc_bk (d_X7_expand_l16s x0 x1 x2 x3)))) (pc' := 86) (fun q1 => [.int q1.1]) (fun q1 => q1.2) rfl (fun _ => rfl) (fun q1 => ?_)
          refine dw_g rfl ?_
          refine dg_L (pc' := 88) [(8, .int q1.1), (7, .int ((1 : Int32) <<< ((m.1 (x1 + 3) (Int32.toNatClampNeg x6)) &&& 31))), (0, .ref x0), (1, .ref x1), (2, .int x2), (3, .int x3), (4, .int x4), (5, .int x5), (6, .int x6)] [] rfl (fun _ => rfl) rfl ?_
          refine dg_s (pc' := 90) [.int q1.1] rfl (fun _ => rfl) rfl ?_
          refine dw_if (fun t => Φ (Option.bind t (dc_bk (d_X7_expand_l16s x0 x1 x2 x3)))) (0 ≤ (Int32.toInt q1.1)) [] 100 93 rfl (fun _ => rfl) (fun c3 => ?_) (fun c3 => ?_)
          · refine dw_g rfl ?_
            refine dg_s (pc' := 101) [.ref x0] rfl (fun _ => rfl) rfl ?_
            refine dg_s (pc' := 104) [.ref (x0 + 5)] rfl (fun _ => rfl) rfl ?_
            refine dg_s (pc' := 105) [.int x2, .ref (x0 + 5)] rfl (fun _ => rfl) rfl ?_
            refine dg_s (pc' := 107) [.int (16 : Int32), .int x2, .ref (x0 + 5)] rfl (fun _ => rfl) rfl ?_
            refine dg_s (pc' := 108) [.int (x2 * (16 : Int32)), .ref (x0 + 5)] rfl (fun _ => rfl) rfl ?_
            refine dg_s (pc' := 110) [.int x6, .int (x2 * (16 : Int32)), .ref (x0 + 5)] rfl (fun _ => rfl) rfl ?_
            refine dg_s (pc' := 111) [.int ((x2 * (16 : Int32)) + x6), .ref (x0 + 5)] rfl (fun _ => rfl) rfl ?_
            refine dg_s (pc' := 113) [.int q1.1, .int ((x2 * (16 : Int32)) + x6), .ref (x0 + 5)] rfl (fun _ => rfl) rfl ?_
            refine dg_m (pc' := 114) (dc_wi q1.2 (x0 + 5) (Int32.toNatClampNeg ((x2 * (16 : Int32)) + x6)) q1.1) [] rfl (fun _ => rfl) rfl ?_
            refine dg_s (pc' := 116) [.int x4] rfl (fun _ => rfl) rfl ?_
            refine dg_s (pc' := 117) [.int (1 : Int32), .int x4] rfl (fun _ => rfl) rfl ?_
            refine dg_s (pc' := 119) [.int x6, .int (1 : Int32), .int x4] rfl (fun _ => rfl) rfl ?_
            refine dg_s (pc' := 120) [.int ((1 : Int32) <<< (x6 &&& 31)), .int x4] rfl (fun _ => rfl) rfl ?_
            refine dg_s (pc' := 121) [.int (x4 ||| ((1 : Int32) <<< (x6 &&& 31)))] rfl (fun _ => rfl) rfl ?_
            refine dg_L (pc' := 123) [(4, .int (x4 ||| ((1 : Int32) <<< (x6 &&& 31)))), (8, .int q1.1), (7, .int ((1 : Int32) <<< ((m.1 (x1 + 3) (Int32.toNatClampNeg x6)) &&& 31))), (0, .ref x0), (1, .ref x1), (2, .int x2), (3, .int x3), (5, .int x5), (6, .int x6)] [] rfl (fun _ => rfl) rfl ?_
            refine dg_s (pc' := 125) [.int x5] rfl (fun _ => rfl) rfl ?_
            refine dg_s (pc' := 127) [.int ((1 : Int32) <<< ((m.1 (x1 + 3) (Int32.toNatClampNeg x6)) &&& 31)), .int x5] rfl (fun _ => rfl) rfl ?_
            refine dg_s (pc' := 128) [.int (x5 ||| ((1 : Int32) <<< ((m.1 (x1 + 3) (Int32.toNatClampNeg x6)) &&& 31)))] rfl (fun _ => rfl) rfl ?_
            refine dg_L (pc' := 130) [(5, .int (x5 ||| ((1 : Int32) <<< ((m.1 (x1 + 3) (Int32.toNatClampNeg x6)) &&& 31)))), (4, .int (x4 ||| ((1 : Int32) <<< (x6 &&& 31)))), (8, .int q1.1), (7, .int ((1 : Int32) <<< ((m.1 (x1 + 3) (Int32.toNatClampNeg x6)) &&& 31))), (0, .ref x0), (1, .ref x1), (2, .int x2), (3, .int x3), (6, .int x6)] [] rfl (fun _ => rfl) rfl ?_
            refine dg_L (pc' := 133) [(6, .int (x6 + (1 : Int32))), (5, .int (x5 ||| ((1 : Int32) <<< ((m.1 (x1 + 3) (Int32.toNatClampNeg x6)) &&& 31)))), (4, .int (x4 ||| ((1 : Int32) <<< (x6 &&& 31)))), (8, .int q1.1), (7, .int ((1 : Int32) <<< ((m.1 (x1 + 3) (Int32.toNatClampNeg x6)) &&& 31))), (0, .ref x0), (1, .ref x1), (2, .int x2), (3, .int x3)] [] rfl (fun _ => rfl) rfl ?_
            refine dw_s (pc' := 16) [] rfl (fun _ => rfl) ?_
            exact dw_j rfl (fun lv1 hv => ih (x4 ||| ((1 : Int32) <<< (x6 &&& 31))) (x5 ||| ((1 : Int32) <<< ((m.1 (x1 + 3) (Int32.toNatClampNeg x6)) &&& 31))) (x6 + (1 : Int32)) (dc_wi q1.2 (x0 + 5) (Int32.toNatClampNeg ((x2 * (16 : Int32)) + x6)) q1.1) lv1 (hv.1 _ rfl) (hv.2.1 _ rfl) (hv.2.2.1 _ rfl) (hv.2.2.2.1 _ rfl) (hv.2.2.2.2.1 _ rfl) (hv.2.2.2.2.2.1 _ rfl) (hv.2.2.2.2.2.2.1 _ rfl))
          · refine dw_g rfl ?_
            refine dg_s (pc' := 94) [.ref x0] rfl (fun _ => rfl) rfl ?_
            refine dg_s (pc' := 96) [.int (-6 : Int32), .ref x0] rfl (fun _ => rfl) rfl ?_
            refine dg_m (pc' := 99) (dc_wi q1.2 x0 1 (-6 : Int32)) [] rfl (fun _ => rfl) rfl ?_
            exact dw_r (some (.inl (none, (dc_wi q1.2 x0 1 (-6 : Int32))))) rfl (fun _ => rfl) (kR _)
        · refine dw_g rfl ?_
          refine dg_s (pc' := 49) [.ref x0] rfl (fun _ => rfl) rfl ?_
          refine dg_s (pc' := 51) [.int (-2 : Int32), .ref x0] rfl (fun _ => rfl) rfl ?_
          refine dg_m (pc' := 54) (dc_wi m x0 1 (-2 : Int32)) [] rfl (fun _ => rfl) rfl ?_
          exact dw_r (some (.inl (none, (dc_wi m x0 1 (-2 : Int32))))) rfl (fun _ => rfl) (kR _)
      · refine dw_g rfl ?_
        refine dg_s (pc' := 130) [] rfl (fun _ => rfl) rfl ?_
        refine dg_L (pc' := 133) [(6, .int (x6 + (1 : Int32))), (0, .ref x0), (1, .ref x1), (2, .int x2), (3, .int x3), (4, .int x4), (5, .int x5)] [] rfl (fun _ => rfl) rfl ?_
        refine dw_s (pc' := 16) [] rfl (fun _ => rfl) ?_
        exact dw_j rfl (fun lv1 hv => ih x4 x5 (x6 + (1 : Int32)) m lv1 (hv.1 _ rfl) (hv.2.1 _ rfl) (hv.2.2.1 _ rfl) (hv.2.2.2.1 _ rfl) (hv.2.2.2.2.1 _ rfl) (hv.2.2.2.2.2.1 _ rfl) (hv.2.2.2.2.2.2.1 _ rfl))
noncomputable def d_X7_expand (x0 : Nat) (x1 : Nat) (x2 : Int32) (m : dc_M) : Option dc_M :=
  (d_X7_expand_l16 x0 x1 x2 (m.1 (x0 + 1) (Int32.toNatClampNeg x2)) (0 : Int32) (0 : Int32) (0 : Int32) m)
set_option maxHeartbeats 8000000 in
theorem k_X7_expand {u : Nat} {N : Nat} {Φ : (Option dc_M) → Option Value → dc_M → Prop} (x0 : Nat) (x1 : Nat) (x2 : Int32) (m : dc_M) (kR : ∀  (m : dc_M), Φ (some (m)) (none) m)  {lv : ab_L} (f0 : ab_lk lv 0 = some (.ref x0)) (f1 : ab_lk lv 1 = some (.ref x1)) (f2 : ab_lk lv 2 = some (.int x2)) : dc_pv u N ab_M_X7_expand 0 lv [] m (Φ (d_X7_expand x0 x1 x2 m)) := by
  refine dc_pv.mono (dc_ok (C := C_X7_expand) (S := S_X7_expand) CO_X7_expand 400 0 [(0, .ref x0), (1, .ref x1), (2, .int x2)] lv [] m (dc_sub_cons f0 (dc_sub_cons f1 (dc_sub_cons f2 (dc_sub_nil)))) ?_) (Nat.le_succ N)
  unfold d_X7_expand
  refine dg_s (pc' := 1) [.ref x0] rfl (fun _ => rfl) rfl ?_
  refine dg_s (pc' := 4) [.ref (x0 + 1)] rfl (fun _ => rfl) rfl ?_
  refine dg_s (pc' := 5) [.int x2, .ref (x0 + 1)] rfl (fun _ => rfl) rfl ?_
  refine dg_s (pc' := 6) [.int (m.1 (x0 + 1) (Int32.toNatClampNeg x2))] rfl (fun _ => rfl) rfl ?_
  refine dg_L (pc' := 7) [(3, .int (m.1 (x0 + 1) (Int32.toNatClampNeg x2))), (0, .ref x0), (1, .ref x1), (2, .int x2)] [] rfl (fun _ => rfl) rfl ?_
  refine dg_s (pc' := 8) [.int (0 : Int32)] rfl (fun _ => rfl) rfl ?_
  refine dg_L (pc' := 10) [(4, .int (0 : Int32)), (3, .int (m.1 (x0 + 1) (Int32.toNatClampNeg x2))), (0, .ref x0), (1, .ref x1), (2, .int x2)] [] rfl (fun _ => rfl) rfl ?_
  refine dg_s (pc' := 11) [.int (0 : Int32)] rfl (fun _ => rfl) rfl ?_
  refine dg_L (pc' := 13) [(5, .int (0 : Int32)), (4, .int (0 : Int32)), (3, .int (m.1 (x0 + 1) (Int32.toNatClampNeg x2))), (0, .ref x0), (1, .ref x1), (2, .int x2)] [] rfl (fun _ => rfl) rfl ?_
  refine dg_s (pc' := 14) [.int (0 : Int32)] rfl (fun _ => rfl) rfl ?_
  refine dw_L (pc' := 16) [(6, .int (0 : Int32)), (5, .int (0 : Int32)), (4, .int (0 : Int32)), (3, .int (m.1 (x0 + 1) (Int32.toNatClampNeg x2))), (0, .ref x0), (1, .ref x1), (2, .int x2)] [] rfl (fun _ => rfl) ?_
  exact dw_j rfl (fun lv1 hv => k_X7_expand_l16 (Φ := (fun t => Φ t)) x0 x1 x2 (m.1 (x0 + 1) (Int32.toNatClampNeg x2)) (fun _b => kR _b) N  (0 : Int32) (0 : Int32) (0 : Int32) m lv1 (hv.1 _ rfl) (hv.2.1 _ rfl) (hv.2.2.1 _ rfl) (hv.2.2.2.1 _ rfl) (hv.2.2.2.2.1 _ rfl) (hv.2.2.2.2.2.1 _ rfl) (hv.2.2.2.2.2.2.1 _ rfl))
noncomputable def H_X7_expand : dc_H := fun As m k => match As with
  | [.ref x0, .ref x1, .int x2] => (d_X7_expand x0 x1 x2 m).bind (fun q => k (none) q)
  | _ => dc_kz
theorem H_X7_expand_ok {u : Nat} : dc_cok u 89 H_X7_expand := fun M' hG N As m k P hz hP => by
  obtain rfl : ab_M_X7_expand = M' := Option.some.inj hG
  unfold H_X7_expand at hP
  split at hP
  · rename_i x0 x1 x2
    exact dc_pv.imp (k_X7_expand (Φ := fun (t : Option dc_M) r m' => P (t.bind (fun q => k (none) q)) → P (k r m')) x0 x1 x2 m (fun _ h => h) rfl rfl rfl) (fun r m' h => h hP)
  · exact absurd hP hz
def C_X7_tellLevels : List (Nat × dc_H) := []
theorem CO_X7_tellLevels {u : Nat} : dc_CO u C_X7_tellLevels := dc_CO_nil
def S_X7_tellLevels : List (Nat × List Nat) := [(7, [0, 1, 2, 3, 4]), (19, [0, 1, 2, 3, 4, 5]), (107, [0, 1, 2, 3, 4, 5, 6]), (163, [0, 3, 4])]
noncomputable def d_X7_tellLevels_l163b (x0 : Nat) (x3 : Int32) (x4 : Int32) (m : dc_M) : Option ((Int32 × dc_M) ⊕ (Int32 × dc_M)) :=
  (if (Int32.toInt (m.1 x0 0)) ≤ (Int32.toInt x4) then some (Sum.inr (((1 : Int32), m))) else some (Sum.inl ((x4 + (1 : Int32)), (dc_wi m (x0 + 3) (Int32.toNatClampNeg x4) ((m.1 (x0 + 3) (Int32.toNatClampNeg x4)) ^^^ x3)))))
noncomputable def d_X7_tellLevels_l163s (x0 : Nat) (x3 : Int32) : (Int32 × dc_M) → Option ((Int32 × dc_M) ⊕ (Int32 × dc_M)) := fun s => d_X7_tellLevels_l163b x0 x3 s.1 s.2
noncomputable def d_X7_tellLevels_l163 (x0 : Nat) (x3 : Int32) (x4 : Int32) (m : dc_M) : Option (Int32 × dc_M) := dc_lp (d_X7_tellLevels_l163s x0 x3) (x4, m)
set_option maxHeartbeats 8000000 in
theorem k_X7_tellLevels_l163 {u : Nat} {Φ : (Option (Int32 × dc_M)) → Option Value → dc_M → Prop} (x0 : Nat) (x3 : Int32) (kR : ∀ (v : Int32) (m : dc_M), Φ (some ((v, m))) (some (.int v)) m) : ∀ (N : Nat), ∀ (x4 : Int32) (m : dc_M) (lv : ab_L), ab_lk lv 0 = some (.ref x0) → ab_lk lv 3 = some (.int x3) → ab_lk lv 4 = some (.int x4) → dc_pv u N ab_M_X7_tellLevels 163 lv [] m (Φ (d_X7_tellLevels_l163 x0 x3 x4 m)) := by
  intro N
  induction N with
  | zero => intros; exact dc_pv_zero
  | succ N ih =>
    intro x4 m lv f0 f3 f4
    refine dc_ok (C := C_X7_tellLevels) (S := S_X7_tellLevels) CO_X7_tellLevels 400 163 [(0, .ref x0), (3, .int x3), (4, .int x4)] lv [] m (dc_sub_cons f0 (dc_sub_cons f3 (dc_sub_cons f4 (dc_sub_nil)))) ?_
    unfold d_X7_tellLevels_l163
    rw [dc_lp_eq]
    show (fun t x => dc_lf u N ab_M_X7_tellLevels (Φ (Option.bind t (dc_bk (d_X7_tellLevels_l163s x0 x3)))) x) (d_X7_tellLevels_l163b x0 x3 x4 m) _
    dsimp only
    unfold d_X7_tellLevels_l163b
    refine dg_s (pc' := 165) [.int x4] rfl (fun _ => rfl) rfl ?_
    refine dg_s (pc' := 166) [.ref x0, .int x4] rfl (fun _ => rfl) rfl ?_
    refine dg_s (pc' := 169) [.int (m.1 x0 0), .int x4] rfl (fun _ => rfl) rfl ?_
    refine dw_if (fun t => Φ (Option.bind t (dc_bk (d_X7_tellLevels_l163s x0 x3)))) ((Int32.toInt (m.1 x0 0)) ≤ (Int32.toInt x4)) [] 189 172 rfl (fun _ => rfl) (fun c0 => ?_) (fun c0 => ?_)
    · refine dw_g rfl ?_
      refine dg_s (pc' := 190) [.int (1 : Int32)] rfl (fun _ => rfl) rfl ?_
      exact dw_r (some (.inl (some (.int (1 : Int32)), m))) rfl (fun _ => rfl) (kR _ _)
    · refine dw_g rfl ?_
      refine dg_s (pc' := 173) [.ref x0] rfl (fun _ => rfl) rfl ?_
      refine dg_s (pc' := 176) [.ref (x0 + 3)] rfl (fun _ => rfl) rfl ?_
      refine dg_s (pc' := 178) [.int x4, .ref (x0 + 3)] rfl (fun _ => rfl) rfl ?_
      refine dg_s (pc' := 179) [.int x4, .ref (x0 + 3), .int x4, .ref (x0 + 3)] rfl (fun _ => rfl) rfl ?_
      refine dg_s (pc' := 180) [.int (m.1 (x0 + 3) (Int32.toNatClampNeg x4)), .int x4, .ref (x0 + 3)] rfl (fun _ => rfl) rfl ?_
      refine dg_s (pc' := 181) [.int x3, .int (m.1 (x0 + 3) (Int32.toNatClampNeg x4)), .int x4, .ref (x0 + 3)] rfl (fun _ => rfl) rfl ?_
      refine dg_s (pc' := 182) [.int ((m.1 (x0 + 3) (Int32.toNatClampNeg x4)) ^^^ x3), .int x4, .ref (x0 + 3)] rfl (fun _ => rfl) rfl ?_
      refine dg_m (pc' := 183) (dc_wi m (x0 + 3) (Int32.toNatClampNeg x4) ((m.1 (x0 + 3) (Int32.toNatClampNeg x4)) ^^^ x3)) [] rfl (fun _ => rfl) rfl ?_
      refine dg_L (pc' := 186) [(4, .int (x4 + (1 : Int32))), (0, .ref x0), (3, .int x3)] [] rfl (fun _ => rfl) rfl ?_
      refine dw_s (pc' := 163) [] rfl (fun _ => rfl) ?_
      exact dw_j rfl (fun lv1 hv => ih (x4 + (1 : Int32)) (dc_wi m (x0 + 3) (Int32.toNatClampNeg x4) ((m.1 (x0 + 3) (Int32.toNatClampNeg x4)) ^^^ x3)) lv1 (hv.1 _ rfl) (hv.2.1 _ rfl) (hv.2.2.1 _ rfl))
noncomputable def d_X7_tellLevels_b107 (x0 : Nat) (x1 : Nat) (x2 : Int32) (x3 : Int32) (x4 : Int32) (x5 : Int32) (x6 : Int32) (s0 : Int32) (m : dc_M) : Option ((Int32 × Int32 × Int32) ⊕ ((Int32 × Int32 × Int32) ⊕ (Int32 × dc_M))) :=
  (if (Int32.toInt (x2 &&& x6)) = 0 then some (Sum.inl ((x2 ||| x6), (x3 ||| (s0 ^^^ ((m.1 (x0 + 3) (Int32.toNatClampNeg x4)) &&& x6))), (x5 + (1 : Int32)))) else (if (Int32.toInt (x3 &&& x6)) = (Int32.toInt (s0 ^^^ ((m.1 (x0 + 3) (Int32.toNatClampNeg x4)) &&& x6))) then some (Sum.inl ((x2 ||| x6), (x3 ||| (s0 ^^^ ((m.1 (x0 + 3) (Int32.toNatClampNeg x4)) &&& x6))), (x5 + (1 : Int32)))) else some (Sum.inr (Sum.inr (((0 : Int32), m))))))
set_option maxHeartbeats 8000000 in
theorem k_X7_tellLevels_b107 {u : Nat} {N : Nat} {Φ : (Option ((Int32 × Int32 × Int32) ⊕ ((Int32 × Int32 × Int32) ⊕ (Int32 × dc_M)))) → Option Value → dc_M → Prop} (x0 : Nat) (x1 : Nat) (x2 : Int32) (x3 : Int32) (x4 : Int32) (x5 : Int32) (x6 : Int32) (s0 : Int32) (m : dc_M) (kR : ∀ (v : Int32) (m : dc_M), Φ (some (Sum.inr (Sum.inr ((v, m))))) (some (.int v)) m) (k19 : ∀ (x2 : Int32) (x3 : Int32) (x5 : Int32) (lv : ab_L), ab_lk lv 0 = some (.ref x0) → ab_lk lv 1 = some (.ref x1) → ab_lk lv 2 = some (.int x2) → ab_lk lv 3 = some (.int x3) → ab_lk lv 4 = some (.int x4) → ab_lk lv 5 = some (.int x5) →  dc_pv u N ab_M_X7_tellLevels 19 lv [] m (Φ (some (Sum.inl (x2, x3, x5))))) (k7 : ∀ (x2 : Int32) (x3 : Int32) (x4 : Int32) (lv : ab_L), ab_lk lv 0 = some (.ref x0) → ab_lk lv 1 = some (.ref x1) → ab_lk lv 2 = some (.int x2) → ab_lk lv 3 = some (.int x3) → ab_lk lv 4 = some (.int x4) →  dc_pv u N ab_M_X7_tellLevels 7 lv [] m (Φ (some (Sum.inr (Sum.inl (x2, x3, x4)))))) {lv : ab_L} (f0 : ab_lk lv 0 = some (.ref x0)) (f1 : ab_lk lv 1 = some (.ref x1)) (f2 : ab_lk lv 2 = some (.int x2)) (f3 : ab_lk lv 3 = some (.int x3)) (f4 : ab_lk lv 4 = some (.int x4)) (f5 : ab_lk lv 5 = some (.int x5)) (f6 : ab_lk lv 6 = some (.int x6)) : dc_pv u N ab_M_X7_tellLevels 107 lv [.int s0] m (Φ (d_X7_tellLevels_b107 x0 x1 x2 x3 x4 x5 x6 s0 m)) := by
  refine dc_pv.mono (dc_ok (C := C_X7_tellLevels) (S := S_X7_tellLevels) CO_X7_tellLevels 400 107 [(0, .ref x0), (1, .ref x1), (2, .int x2), (3, .int x3), (4, .int x4), (5, .int x5), (6, .int x6)] lv [.int s0] m (dc_sub_cons f0 (dc_sub_cons f1 (dc_sub_cons f2 (dc_sub_cons f3 (dc_sub_cons f4 (dc_sub_cons f5 (dc_sub_cons f6 (dc_sub_nil)))))))) ?_) (Nat.le_succ N)
  unfold d_X7_tellLevels_b107
  refine dg_s (pc' := 108) [.ref x0, .int s0] rfl (fun _ => rfl) rfl ?_
  refine dg_s (pc' := 111) [.ref (x0 + 3), .int s0] rfl (fun _ => rfl) rfl ?_
  refine dg_s (pc' := 113) [.int x4, .ref (x0 + 3), .int s0] rfl (fun _ => rfl) rfl ?_
  refine dg_s (pc' := 114) [.int (m.1 (x0 + 3) (Int32.toNatClampNeg x4)), .int s0] rfl (fun _ => rfl) rfl ?_
  refine dg_s (pc' := 116) [.int x6, .int (m.1 (x0 + 3) (Int32.toNatClampNeg x4)), .int s0] rfl (fun _ => rfl) rfl ?_
  refine dg_s (pc' := 117) [.int ((m.1 (x0 + 3) (Int32.toNatClampNeg x4)) &&& x6), .int s0] rfl (fun _ => rfl) rfl ?_
  refine dg_s (pc' := 118) [.int (s0 ^^^ ((m.1 (x0 + 3) (Int32.toNatClampNeg x4)) &&& x6))] rfl (fun _ => rfl) rfl ?_
  refine dg_L (pc' := 120) [(7, .int (s0 ^^^ ((m.1 (x0 + 3) (Int32.toNatClampNeg x4)) &&& x6))), (0, .ref x0), (1, .ref x1), (2, .int x2), (3, .int x3), (4, .int x4), (5, .int x5), (6, .int x6)] [] rfl (fun _ => rfl) rfl ?_
  refine dg_s (pc' := 121) [.int x2] rfl (fun _ => rfl) rfl ?_
  refine dg_s (pc' := 123) [.int x6, .int x2] rfl (fun _ => rfl) rfl ?_
  refine dg_s (pc' := 124) [.int (x2 &&& x6)] rfl (fun _ => rfl) rfl ?_
  refine dw_if (fun t => Φ t) ((Int32.toInt (x2 &&& x6)) = 0) [] 138 127 rfl (fun _ => rfl) (fun c0 => ?_) (fun c0 => ?_)
  · refine dw_g rfl ?_
    refine dg_s (pc' := 139) [.int x2] rfl (fun _ => rfl) rfl ?_
    refine dg_s (pc' := 141) [.int x6, .int x2] rfl (fun _ => rfl) rfl ?_
    refine dg_s (pc' := 142) [.int (x2 ||| x6)] rfl (fun _ => rfl) rfl ?_
    refine dg_L (pc' := 143) [(2, .int (x2 ||| x6)), (7, .int (s0 ^^^ ((m.1 (x0 + 3) (Int32.toNatClampNeg x4)) &&& x6))), (0, .ref x0), (1, .ref x1), (3, .int x3), (4, .int x4), (5, .int x5), (6, .int x6)] [] rfl (fun _ => rfl) rfl ?_
    refine dg_s (pc' := 144) [.int x3] rfl (fun _ => rfl) rfl ?_
    refine dg_s (pc' := 146) [.int (s0 ^^^ ((m.1 (x0 + 3) (Int32.toNatClampNeg x4)) &&& x6)), .int x3] rfl (fun _ => rfl) rfl ?_
    refine dg_s (pc' := 147) [.int (x3 ||| (s0 ^^^ ((m.1 (x0 + 3) (Int32.toNatClampNeg x4)) &&& x6)))] rfl (fun _ => rfl) rfl ?_
    refine dg_L (pc' := 148) [(3, .int (x3 ||| (s0 ^^^ ((m.1 (x0 + 3) (Int32.toNatClampNeg x4)) &&& x6)))), (2, .int (x2 ||| x6)), (7, .int (s0 ^^^ ((m.1 (x0 + 3) (Int32.toNatClampNeg x4)) &&& x6))), (0, .ref x0), (1, .ref x1), (4, .int x4), (5, .int x5), (6, .int x6)] [] rfl (fun _ => rfl) rfl ?_
    refine dg_L (pc' := 151) [(5, .int (x5 + (1 : Int32))), (3, .int (x3 ||| (s0 ^^^ ((m.1 (x0 + 3) (Int32.toNatClampNeg x4)) &&& x6)))), (2, .int (x2 ||| x6)), (7, .int (s0 ^^^ ((m.1 (x0 + 3) (Int32.toNatClampNeg x4)) &&& x6))), (0, .ref x0), (1, .ref x1), (4, .int x4), (6, .int x6)] [] rfl (fun _ => rfl) rfl ?_
    refine dw_s (pc' := 19) [] rfl (fun _ => rfl) ?_
    exact dw_j rfl (fun lv1 hv => k19 (x2 ||| x6) (x3 ||| (s0 ^^^ ((m.1 (x0 + 3) (Int32.toNatClampNeg x4)) &&& x6))) (x5 + (1 : Int32)) lv1 (hv.1 _ rfl) (hv.2.1 _ rfl) (hv.2.2.1 _ rfl) (hv.2.2.2.1 _ rfl) (hv.2.2.2.2.1 _ rfl) (hv.2.2.2.2.2.1 _ rfl))
  · refine dw_g rfl ?_
    refine dg_s (pc' := 128) [.int x3] rfl (fun _ => rfl) rfl ?_
    refine dg_s (pc' := 130) [.int x6, .int x3] rfl (fun _ => rfl) rfl ?_
    refine dg_s (pc' := 131) [.int (x3 &&& x6)] rfl (fun _ => rfl) rfl ?_
    refine dg_s (pc' := 133) [.int (s0 ^^^ ((m.1 (x0 + 3) (Int32.toNatClampNeg x4)) &&& x6)), .int (x3 &&& x6)] rfl (fun _ => rfl) rfl ?_
    refine dw_if (fun t => Φ t) ((Int32.toInt (x3 &&& x6)) = (Int32.toInt (s0 ^^^ ((m.1 (x0 + 3) (Int32.toNatClampNeg x4)) &&& x6)))) [] 138 136 rfl (fun _ => rfl) (fun c1 => ?_) (fun c1 => ?_)
    · refine dw_g rfl ?_
      refine dg_s (pc' := 139) [.int x2] rfl (fun _ => rfl) rfl ?_
      refine dg_s (pc' := 141) [.int x6, .int x2] rfl (fun _ => rfl) rfl ?_
      refine dg_s (pc' := 142) [.int (x2 ||| x6)] rfl (fun _ => rfl) rfl ?_
      refine dg_L (pc' := 143) [(2, .int (x2 ||| x6)), (7, .int (s0 ^^^ ((m.1 (x0 + 3) (Int32.toNatClampNeg x4)) &&& x6))), (0, .ref x0), (1, .ref x1), (3, .int x3), (4, .int x4), (5, .int x5), (6, .int x6)] [] rfl (fun _ => rfl) rfl ?_
      refine dg_s (pc' := 144) [.int x3] rfl (fun _ => rfl) rfl ?_
      refine dg_s (pc' := 146) [.int (s0 ^^^ ((m.1 (x0 + 3) (Int32.toNatClampNeg x4)) &&& x6)), .int x3] rfl (fun _ => rfl) rfl ?_
      refine dg_s (pc' := 147) [.int (x3 ||| (s0 ^^^ ((m.1 (x0 + 3) (Int32.toNatClampNeg x4)) &&& x6)))] rfl (fun _ => rfl) rfl ?_
      refine dg_L (pc' := 148) [(3, .int (x3 ||| (s0 ^^^ ((m.1 (x0 + 3) (Int32.toNatClampNeg x4)) &&& x6)))), (2, .int (x2 ||| x6)), (7, .int (s0 ^^^ ((m.1 (x0 + 3) (Int32.toNatClampNeg x4)) &&& x6))), (0, .ref x0), (1, .ref x1), (4, .int x4), (5, .int x5), (6, .int x6)] [] rfl (fun _ => rfl) rfl ?_
      refine dg_L (pc' := 151) [(5, .int (x5 + (1 : Int32))), (3, .int (x3 ||| (s0 ^^^ ((m.1 (x0 + 3) (Int32.toNatClampNeg x4)) &&& x6)))), (2, .int (x2 ||| x6)), (7, .int (s0 ^^^ ((m.1 (x0 + 3) (Int32.toNatClampNeg x4)) &&& x6))), (0, .ref x0), (1, .ref x1), (4, .int x4), (6, .int x6)] [] rfl (fun _ => rfl) rfl ?_
      refine dw_s (pc' := 19) [] rfl (fun _ => rfl) ?_
      exact dw_j rfl (fun lv1 hv => k19 (x2 ||| x6) (x3 ||| (s0 ^^^ ((m.1 (x0 + 3) (Int32.toNatClampNeg x4)) &&& x6))) (x5 + (1 : Int32)) lv1 (hv.1 _ rfl) (hv.2.1 _ rfl) (hv.2.2.1 _ rfl) (hv.2.2.2.1 _ rfl) (hv.2.2.2.2.1 _ rfl) (hv.2.2.2.2.2.1 _ rfl))
    · refine dw_g rfl ?_
      refine dg_s (pc' := 137) [.int (0 : Int32)] rfl (fun _ => rfl) rfl ?_
      exact dw_r (some (.inl (some (.int (0 : Int32)), m))) rfl (fun _ => rfl) (kR _ _)
noncomputable def d_X7_tellLevels_l19b (x0 : Nat) (x1 : Nat) (x4 : Int32) (x2 : Int32) (x3 : Int32) (x5 : Int32) (m : dc_M) : Option ((Int32 × Int32 × Int32) ⊕ ((Int32 × Int32 × Int32) ⊕ (Int32 × dc_M))) :=
  (if (Int32.toInt (m.1 x1 1)) ≤ (Int32.toInt x5) then some (Sum.inr (Sum.inl (x2, x3, (x4 + (1 : Int32))))) else (if ¬ (Int32.toInt (((m.1 (x0 + 2) (Int32.toNatClampNeg x4)) >>> (x5 &&& 31)) &&& (1 : Int32))) = 0 then (if (Int32.toInt ((m.1 (x0 + 3) (Int32.toNatClampNeg x4)) ^^^ ((1 : Int32) <<< ((m.1 (x1 + 3) (Int32.toNatClampNeg x5)) &&& 31)))) = (Int32.toInt (m.1 (x0 + 3) (Int32.toNatClampNeg (m.1 (x0 + 5) (Int32.toNatClampNeg ((x4 * (16 : Int32)) + x5)))))) then (if ¬ (Int32.toInt (m.1 (x1 + 4) (Int32.toNatClampNeg x5))) = 1 then (d_X7_tellLevels_b107 x0 x1 x2 x3 x4 x5 ((1 : Int32) <<< ((m.1 (x1 + 3) (Int32.toNatClampNeg x5)) &&& 31)) ((1 : Int32) <<< ((m.1 (x1 + 3) (Int32.toNatClampNeg x5)) &&& 31)) m) else (d_X7_tellLevels_b107 x0 x1 x2 x3 x4 x5 ((1 : Int32) <<< ((m.1 (x1 + 3) (Int32.toNatClampNeg x5)) &&& 31)) (0 : Int32) m)) else some (Sum.inr (Sum.inr (((0 : Int32), m))))) else some (Sum.inl (x2, x3, (x5 + (1 : Int32))))))
noncomputable def d_X7_tellLevels_l19s (x0 : Nat) (x1 : Nat) (x4 : Int32) (m : dc_M) : (Int32 × Int32 × Int32) → Option ((Int32 × Int32 × Int32) ⊕ ((Int32 × Int32 × Int32) ⊕ (Int32 × dc_M))) := fun s => d_X7_tellLevels_l19b x0 x1 x4 s.1 s.2.1 s.2.2 m
noncomputable def d_X7_tellLevels_l19 (x0 : Nat) (x1 : Nat) (x4 : Int32) (x2 : Int32) (x3 : Int32) (x5 : Int32) (m : dc_M) : Option ((Int32 × Int32 × Int32) ⊕ (Int32 × dc_M)) := dc_lp (d_X7_tellLevels_l19s x0 x1 x4 m) (x2, x3, x5)
set_option maxHeartbeats 8000000 in
theorem k_X7_tellLevels_l19 {u : Nat} {Φ : (Option ((Int32 × Int32 × Int32) ⊕ (Int32 × dc_M))) → Option Value → dc_M → Prop} (x0 : Nat) (x1 : Nat) (x4 : Int32) (m : dc_M) (kR : ∀ (v : Int32) (m : dc_M), Φ (some (Sum.inr ((v, m)))) (some (.int v)) m) : ∀ (N : Nat), (∀ (x2 : Int32) (x3 : Int32) (x4 : Int32) (lv : ab_L), ab_lk lv 0 = some (.ref x0) → ab_lk lv 1 = some (.ref x1) → ab_lk lv 2 = some (.int x2) → ab_lk lv 3 = some (.int x3) → ab_lk lv 4 = some (.int x4) →  dc_pv u N ab_M_X7_tellLevels 7 lv [] m (Φ (some (Sum.inl (x2, x3, x4))))) → ∀ (x2 : Int32) (x3 : Int32) (x5 : Int32) (lv : ab_L), ab_lk lv 0 = some (.ref x0) → ab_lk lv 1 = some (.ref x1) → ab_lk lv 2 = some (.int x2) → ab_lk lv 3 = some (.int x3) → ab_lk lv 4 = some (.int x4) → ab_lk lv 5 = some (.int x5) → dc_pv u N ab_M_X7_tellLevels 19 lv [] m (Φ (d_X7_tellLevels_l19 x0 x1 x4 x2 x3 x5 m)) := by
  intro N
  induction N with
  | zero => intros; exact dc_pv_zero
  | succ N ih =>
    intro k7 x2 x3 x5 lv f0 f1 f2 f3 f4 f5
    have k7 := fun a0 a1 a2 a3 a4 a5 a6 a7 a8 => (k7 a0 a1 a2 a3 a4 a5 a6 a7 a8).mono (Nat.le_succ N)
    have ih := ih k7
    refine dc_ok (C := C_X7_tellLevels) (S := S_X7_tellLevels) CO_X7_tellLevels 400 19 [(0, .ref x0), (1, .ref x1), (2, .int x2), (3, .int x3), (4, .int x4), (5, .int x5)] lv [] m (dc_sub_cons f0 (dc_sub_cons f1 (dc_sub_cons f2 (dc_sub_cons f3 (dc_sub_cons f4 (dc_sub_cons f5 (dc_sub_nil))))))) ?_
    unfold d_X7_tellLevels_l19
    rw [dc_lp_eq]
    show (fun t x => dc_lf u N ab_M_X7_tellLevels (Φ (Option.bind t (dc_bk (d_X7_tellLevels_l19s x0 x1 x4 m)))) x) (d_X7_tellLevels_l19b x0 x1 x4 x2 x3 x5 m) _
    dsimp only
    unfold d_X7_tellLevels_l19b
    refine dg_s (pc' := 21) [.int x5] rfl (fun _ => rfl) rfl ?_
    refine dg_s (pc' := 22) [.ref x1, .int x5] rfl (fun _ => rfl) rfl ?_
    refine dg_s (pc' := 25) [.int (m.1 x1 1), .int x5] rfl (fun _ => rfl) rfl ?_
    refine dw_if (fun t => Φ (Option.bind t (dc_bk (d_X7_tellLevels_l19s x0 x1 x4 m)))) ((Int32.toInt (m.1 x1 1)) ≤ (Int32.toInt x5)) [] 154 28 rfl (fun _ => rfl) (fun c0 => ?_) (fun c0 => ?_)
    · refine dw_g rfl ?_
      refine dg_L (pc' := 157) [(4, .int (x4 + (1 : Int32))), (0, .ref x0), (1, .ref x1), (2, .int x2), (3, .int x3), (5, .int x5)] [] rfl (fun _ => rfl) rfl ?_
      refine dw_s (pc' := 7) [] rfl (fun _ => rfl) ?_
      exact dw_j rfl (fun lv1 hv => k7 x2 x3 (x4 + (1 : Int32)) lv1 (hv.1 _ rfl) (hv.2.1 _ rfl) (hv.2.2.1 _ rfl) (hv.2.2.2.1 _ rfl) (hv.2.2.2.2.1 _ rfl))
    · refine dw_g rfl ?_
      refine dg_s (pc' := 29) [.ref x0] rfl (fun _ => rfl) rfl ?_
      refine dg_s (pc' := 32) [.ref (x0 + 2)] rfl (fun _ => rfl) rfl ?_
      refine dg_s (pc' := 34) [.int x4, .ref (x0 + 2)] rfl (fun _ => rfl) rfl ?_
      refine dg_s (pc' := 35) [.int (m.1 (x0 + 2) (Int32.toNatClampNeg x4))] rfl (fun _ => rfl) rfl ?_
      refine dg_s (pc' := 37) [.int x5, .int (m.1 (x0 + 2) (Int32.toNatClampNeg x4))] rfl (fun _ => rfl) rfl ?_
      refine dg_s (pc' := 38) [.int ((m.1 (x0 + 2) (Int32.toNatClampNeg x4)) >>> (x5 &&& 31))] rfl (fun _ => rfl) rfl ?_
      refine dg_s (pc' := 39) [.int (1 : Int32), .int ((m.1 (x0 + 2) (Int32.toNatClampNeg x4)) >>> (x5 &&& 31))] rfl (fun _ => rfl) rfl ?_
      refine dg_s (pc' := 40) [.int (((m.1 (x0 + 2) (Int32.toNatClampNeg x4)) >>> (x5 &&& 31)) &&& (1 : Int32))] rfl (fun _ => rfl) rfl ?_
      refine dw_if (fun t => Φ (Option.bind t (dc_bk (d_X7_tellLevels_l19s x0 x1 x4 m)))) (¬ (Int32.toInt (((m.1 (x0 + 2) (Int32.toNatClampNeg x4)) >>> (x5 &&& 31)) &&& (1 : Int32))) = 0) [] 46 43 rfl (fun _ => rfl) (fun c1 => ?_) (fun c1 => ?_)
      · refine dw_g rfl ?_
        refine dg_s (pc' := 47) [.int (1 : Int32)] rfl (fun _ => rfl) rfl ?_
        refine dg_s (pc' := 48) [.ref x1, .int (1 : Int32)] rfl (fun _ => rfl) rfl ?_
        refine dg_s (pc' := 51) [.ref (x1 + 3), .int (1 : Int32)] rfl (fun _ => rfl) rfl ?_
        refine dg_s (pc' := 53) [.int x5, .ref (x1 + 3), .int (1 : Int32)] rfl (fun _ => rfl) rfl ?_
        refine dg_s (pc' := 54) [.int (m.1 (x1 + 3) (Int32.toNatClampNeg x5)), .int (1 : Int32)] rfl (fun _ => rfl) rfl ?_
        refine dg_s (pc' := 55) [.int ((1 : Int32) <<< ((m.1 (x1 + 3) (Int32.toNatClampNeg x5)) &&& 31))] rfl (fun _ => rfl) rfl ?_
        refine dg_L (pc' := 57) [(6, .int ((1 : Int32) <<< ((m.1 (x1 + 3) (Int32.toNatClampNeg x5)) &&& 31))), (0, .ref x0), (1, .ref x1), (2, .int x2), (3, .int x3), (4, .int x4), (5, .int x5)] [] rfl (fun _ => rfl) rfl ?_
        refine dg_s (pc' := 58) [.ref x0] rfl (fun _ => rfl) rfl ?_
        refine dg_s (pc' := 61) [.ref (x0 + 3)] rfl (fun _ => rfl) rfl ?_
        refine dg_s (pc' := 63) [.int x4, .ref (x0 + 3)] rfl (fun _ => rfl) rfl ?_
        refine dg_s (pc' := 64) [.int (m.1 (x0 + 3) (Int32.toNatClampNeg x4))] rfl (fun _ => rfl) rfl ?_
        refine dg_s (pc' := 66) [.int ((1 : Int32) <<< ((m.1 (x1 + 3) (Int32.toNatClampNeg x5)) &&& 31)), .int (m.1 (x0 + 3) (Int32.toNatClampNeg x4))] rfl (fun _ => rfl) rfl ?_
        refine dg_s (pc' := 67) [.int ((m.1 (x0 + 3) (Int32.toNatClampNeg x4)) ^^^ ((1 : Int32) <<< ((m.1 (x1 + 3) (Int32.toNatClampNeg x5)) &&& 31)))] rfl (fun _ => rfl) rfl ?_
        refine dg_s (pc' := 68) [.ref x0, .int ((m.1 (x0 + 3) (Int32.toNatClampNeg x4)) ^^^ ((1 : Int32) <<< ((m.1 (x1 + 3) (Int32.toNatClampNeg x5)) &&& 31)))] rfl (fun _ => rfl) rfl ?_
        refine dg_s (pc' := 71) [.ref (x0 + 3), .int ((m.1 (x0 + 3) (Int32.toNatClampNeg x4)) ^^^ ((1 : Int32) <<< ((m.1 (x1 + 3) (Int32.toNatClampNeg x5)) &&& 31)))] rfl (fun _ => rfl) rfl ?_
        refine dg_s (pc' := 72) [.ref x0, .ref (x0 + 3), .int ((m.1 (x0 + 3) (Int32.toNatClampNeg x4)) ^^^ ((1 : Int32) <<< ((m.1 (x1 + 3) (Int32.toNatClampNeg x5)) &&& 31)))] rfl (fun _ => rfl) rfl ?_
        refine dg_s (pc' := 75) [.ref (x0 + 5), .ref (x0 + 3), .int ((m.1 (x0 + 3) (Int32.toNatClampNeg x4)) ^^^ ((1 : Int32) <<< ((m.1 (x1 + 3) (Int32.toNatClampNeg x5)) &&& 31)))] rfl (fun _ => rfl) rfl ?_
        refine dg_s (pc' := 77) [.int x4, .ref (x0 + 5), .ref (x0 + 3), .int ((m.1 (x0 + 3) (Int32.toNatClampNeg x4)) ^^^ ((1 : Int32) <<< ((m.1 (x1 + 3) (Int32.toNatClampNeg x5)) &&& 31)))] rfl (fun _ => rfl) rfl ?_
        refine dg_s (pc' := 79) [.int (16 : Int32), .int x4, .ref (x0 + 5), .ref (x0 + 3), .int ((m.1 (x0 + 3) (Int32.toNatClampNeg x4)) ^^^ ((1 : Int32) <<< ((m.1 (x1 + 3) (Int32.toNatClampNeg x5)) &&& 31)))] rfl (fun _ => rfl) rfl ?_
        refine dg_s (pc' := 80) [.int (x4 * (16 : Int32)), .ref (x0 + 5), .ref (x0 + 3), .int ((m.1 (x0 + 3) (Int32.toNatClampNeg x4)) ^^^ ((1 : Int32) <<< ((m.1 (x1 + 3) (Int32.toNatClampNeg x5)) &&& 31)))] rfl (fun _ => rfl) rfl ?_
        refine dg_s (pc' := 82) [.int x5, .int (x4 * (16 : Int32)), .ref (x0 + 5), .ref (x0 + 3), .int ((m.1 (x0 + 3) (Int32.toNatClampNeg x4)) ^^^ ((1 : Int32) <<< ((m.1 (x1 + 3) (Int32.toNatClampNeg x5)) &&& 31)))] rfl (fun _ => rfl) rfl ?_
        refine dg_s (pc' := 83) [.int ((x4 * (16 : Int32)) + x5), .ref (x0 + 5), .ref (x0 + 3), .int ((m.1 (x0 + 3) (Int32.toNatClampNeg x4)) ^^^ ((1 : Int32) <<< ((m.1 (x1 + 3) (Int32.toNatClampNeg x5)) &&& 31)))] rfl (fun _ => rfl) rfl ?_
        refine dg_s (pc' := 84) [.int (m.1 (x0 + 5) (Int32.toNatClampNeg ((x4 * (16 : Int32)) + x5))), .ref (x0 + 3), .int ((m.1 (x0 + 3) (Int32.toNatClampNeg x4)) ^^^ ((1 : Int32) <<< ((m.1 (x1 + 3) (Int32.toNatClampNeg x5)) &&& 31)))] rfl (fun _ => rfl) rfl ?_
        refine dg_s (pc' := 85) [.int (m.1 (x0 + 3) (Int32.toNatClampNeg (m.1 (x0 + 5) (Int32.toNatClampNeg ((x4 * (16 : Int32)) + x5))))), .int ((m.1 (x0 + 3) (Int32.toNatClampNeg x4)) ^^^ ((1 : Int32) <<< ((m.1 (x1 + 3) (Int32.toNatClampNeg x5)) &&& 31)))] rfl (fun _ => rfl) rfl ?_
        refine dw_if (fun t => Φ (Option.bind t (dc_bk (d_X7_tellLevels_l19s x0 x1 x4 m)))) ((Int32.toInt ((m.1 (x0 + 3) (Int32.toNatClampNeg x4)) ^^^ ((1 : Int32) <<< ((m.1 (x1 + 3) (Int32.toNatClampNeg x5)) &&& 31)))) = (Int32.toInt (m.1 (x0 + 3) (Int32.toNatClampNeg (m.1 (x0 + 5) (Int32.toNatClampNeg ((x4 * (16 : Int32)) + x5))))))) [] 90 88 rfl (fun _ => rfl) (fun c2 => ?_) (fun c2 => ?_)
        · refine dw_g rfl ?_
          refine dg_s (pc' := 91) [.ref x1] rfl (fun _ => rfl) rfl ?_
          refine dg_s (pc' := 94) [.ref (x1 + 4)] rfl (fun _ => rfl) rfl ?_
          refine dg_s (pc' := 96) [.int x5, .ref (x1 + 4)] rfl (fun _ => rfl) rfl ?_
          refine dg_s (pc' := 97) [.int (m.1 (x1 + 4) (Int32.toNatClampNeg x5))] rfl (fun _ => rfl) rfl ?_
          refine dg_s (pc' := 98) [.int (1 : Int32), .int (m.1 (x1 + 4) (Int32.toNatClampNeg x5))] rfl (fun _ => rfl) rfl ?_
          refine dw_if (fun t => Φ (Option.bind t (dc_bk (d_X7_tellLevels_l19s x0 x1 x4 m)))) (¬ (Int32.toInt (m.1 (x1 + 4) (Int32.toNatClampNeg x5))) = 1) [] 105 101 rfl (fun _ => rfl) (fun c3 => ?_) (fun c3 => ?_)
          · refine dw_g rfl ?_
            refine dw_s (pc' := 107) [.int ((1 : Int32) <<< ((m.1 (x1 + 3) (Int32.toNatClampNeg x5)) &&& 31))] rfl (fun _ => rfl) ?_
            exact dw_j rfl (fun lv1 hv => k_X7_tellLevels_b107 (Φ := (fun t => Φ (Option.bind t (dc_bk (d_X7_tellLevels_l19s x0 x1 x4 m))))) x0 x1 x2 x3 x4 x5 ((1 : Int32) <<< ((m.1 (x1 + 3) (Int32.toNatClampNeg x5)) &&& 31)) ((1 : Int32) <<< ((m.1 (x1 + 3) (Int32.toNatClampNeg x5)) &&& 31)) m (fun _a _b => kR _a _b) ih k7 (hv.1 _ rfl) (hv.2.1 _ rfl) (hv.2.2.1 _ rfl) (hv.2.2.2.1 _ rfl) (hv.2.2.2.2.1 _ rfl) (hv.2.2.2.2.2.1 _ rfl) (hv.2.2.2.2.2.2.1 _ rfl))
          · refine dw_g rfl ?_
            refine dg_s (pc' := 102) [.int (0 : Int32)] rfl (fun _ => rfl) rfl ?_
            refine dw_s (pc' := 107) [.int (0 : Int32)] rfl (fun _ => rfl) ?_
            exact dw_j rfl (fun lv1 hv => k_X7_tellLevels_b107 (Φ := (fun t => Φ (Option.bind t (dc_bk (d_X7_tellLevels_l19s x0 x1 x4 m))))) x0 x1 x2 x3 x4 x5 ((1 : Int32) <<< ((m.1 (x1 + 3) (Int32.toNatClampNeg x5)) &&& 31)) (0 : Int32) m (fun _a _b => kR _a _b) ih k7 (hv.1 _ rfl) (hv.2.1 _ rfl) (hv.2.2.1 _ rfl) (hv.2.2.2.1 _ rfl) (hv.2.2.2.2.1 _ rfl) (hv.2.2.2.2.2.1 _ rfl) (hv.2.2.2.2.2.2.1 _ rfl))
        · refine dw_g rfl ?_
          refine dg_s (pc' := 89) [.int (0 : Int32)] rfl (fun _ => rfl) rfl ?_
          exact dw_r (some (.inl (some (.int (0 : Int32)), m))) rfl (fun _ => rfl) (kR _ _)
      · refine dw_g rfl ?_
        refine dg_s (pc' := 148) [] rfl (fun _ => rfl) rfl ?_
        refine dg_L (pc' := 151) [(5, .int (x5 + (1 : Int32))), (0, .ref x0), (1, .ref x1), (2, .int x2), (3, .int x3), (4, .int x4)] [] rfl (fun _ => rfl) rfl ?_
        refine dw_s (pc' := 19) [] rfl (fun _ => rfl) ?_
        exact dw_j rfl (fun lv1 hv => ih x2 x3 (x5 + (1 : Int32)) lv1 (hv.1 _ rfl) (hv.2.1 _ rfl) (hv.2.2.1 _ rfl) (hv.2.2.2.1 _ rfl) (hv.2.2.2.2.1 _ rfl) (hv.2.2.2.2.2.1 _ rfl))
noncomputable def d_X7_tellLevels_l7b (x0 : Nat) (x1 : Nat) (x2 : Int32) (x3 : Int32) (x4 : Int32) (m : dc_M) : Option ((Int32 × Int32 × Int32) ⊕ (Int32 × dc_M)) :=
  (if (Int32.toInt (m.1 x0 0)) ≤ (Int32.toInt x4) then ((d_X7_tellLevels_l163 x0 x3 (0 : Int32) m).map (fun z => Sum.inr (z))) else (d_X7_tellLevels_l19 x0 x1 x4 x2 x3 (0 : Int32) m))
noncomputable def d_X7_tellLevels_l7s (x0 : Nat) (x1 : Nat) (m : dc_M) : (Int32 × Int32 × Int32) → Option ((Int32 × Int32 × Int32) ⊕ (Int32 × dc_M)) := fun s => d_X7_tellLevels_l7b x0 x1 s.1 s.2.1 s.2.2 m
noncomputable def d_X7_tellLevels_l7 (x0 : Nat) (x1 : Nat) (x2 : Int32) (x3 : Int32) (x4 : Int32) (m : dc_M) : Option (Int32 × dc_M) := dc_lp (d_X7_tellLevels_l7s x0 x1 m) (x2, x3, x4)
set_option maxHeartbeats 8000000 in
theorem k_X7_tellLevels_l7 {u : Nat} {Φ : (Option (Int32 × dc_M)) → Option Value → dc_M → Prop} (x0 : Nat) (x1 : Nat) (m : dc_M) (kR : ∀ (v : Int32) (m : dc_M), Φ (some ((v, m))) (some (.int v)) m) : ∀ (N : Nat), ∀ (x2 : Int32) (x3 : Int32) (x4 : Int32) (lv : ab_L), ab_lk lv 0 = some (.ref x0) → ab_lk lv 1 = some (.ref x1) → ab_lk lv 2 = some (.int x2) → ab_lk lv 3 = some (.int x3) → ab_lk lv 4 = some (.int x4) → dc_pv u N ab_M_X7_tellLevels 7 lv [] m (Φ (d_X7_tellLevels_l7 x0 x1 x2 x3 x4 m)) := by
  intro N
  induction N with
  | zero => intros; exact dc_pv_zero
  | succ N ih =>
    intro x2 x3 x4 lv f0 f1 f2 f3 f4
    refine dc_ok (C := C_X7_tellLevels) (S := S_X7_tellLevels) CO_X7_tellLevels 400 7 [(0, .ref x0), (1, .ref x1), (2, .int x2), (3, .int x3), (4, .int x4)] lv [] m (dc_sub_cons f0 (dc_sub_cons f1 (dc_sub_cons f2 (dc_sub_cons f3 (dc_sub_cons f4 (dc_sub_nil)))))) ?_
    unfold d_X7_tellLevels_l7
    rw [dc_lp_eq]
    show (fun t x => dc_lf u N ab_M_X7_tellLevels (Φ (Option.bind t (dc_bk (d_X7_tellLevels_l7s x0 x1 m)))) x) (d_X7_tellLevels_l7b x0 x1 x2 x3 x4 m) _
    dsimp only
    unfold d_X7_tellLevels_l7b
    refine dg_s (pc' := 9) [.int x4] rfl (fun _ => rfl) rfl ?_
    refine dg_s (pc' := 10) [.ref x0, .int x4] rfl (fun _ => rfl) rfl ?_
    refine dg_s (pc' := 13) [.int (m.1 x0 0), .int x4] rfl (fun _ => rfl) rfl ?_
    refine dw_if (fun t => Φ (Option.bind t (dc_bk (d_X7_tellLevels_l7s x0 x1 m)))) ((Int32.toInt (m.1 x0 0)) ≤ (Int32.toInt x4)) [] 160 16 rfl (fun _ => rfl) (fun c0 => ?_) (fun c0 => ?_)
    · refine dw_g rfl ?_
      refine dg_s (pc' := 161) [.int (0 : Int32)] rfl (fun _ => rfl) rfl ?_
      refine dw_L (pc' := 163) [(4, .int (0 : Int32)), (0, .ref x0), (1, .ref x1), (2, .int x2), (3, .int x3)] [] rfl (fun _ => rfl) ?_
      exact dw_j rfl (fun lv1 hv => k_X7_tellLevels_l163 (Φ := (fun t => Φ (Option.bind (t.map (fun z => Sum.inr (z))) (dc_bk (d_X7_tellLevels_l7s x0 x1 m))))) x0 x3 (fun _a _b => kR _a _b) N  (0 : Int32) m lv1 (hv.1 _ rfl) (hv.2.1 _ rfl) (hv.2.2.1 _ rfl))
    · refine dw_g rfl ?_
      refine dg_s (pc' := 17) [.int (0 : Int32)] rfl (fun _ => rfl) rfl ?_
      refine dw_L (pc' := 19) [(5, .int (0 : Int32)), (0, .ref x0), (1, .ref x1), (2, .int x2), (3, .int x3), (4, .int x4)] [] rfl (fun _ => rfl) ?_
      exact dw_j rfl (fun lv1 hv => k_X7_tellLevels_l19 (Φ := (fun t => Φ (Option.bind t (dc_bk (d_X7_tellLevels_l7s x0 x1 m))))) x0 x1 x4 m (fun _a _b => kR _a _b) N ih x2 x3 (0 : Int32) lv1 (hv.1 _ rfl) (hv.2.1 _ rfl) (hv.2.2.1 _ rfl) (hv.2.2.2.1 _ rfl) (hv.2.2.2.2.1 _ rfl) (hv.2.2.2.2.2.1 _ rfl))
noncomputable def d_X7_tellLevels (x0 : Nat) (x1 : Nat) (m : dc_M) : Option (Int32 × dc_M) :=
  (d_X7_tellLevels_l7 x0 x1 (0 : Int32) (0 : Int32) (0 : Int32) m)
set_option maxHeartbeats 8000000 in
theorem k_X7_tellLevels {u : Nat} {N : Nat} {Φ : (Option (Int32 × dc_M)) → Option Value → dc_M → Prop} (x0 : Nat) (x1 : Nat) (m : dc_M) (kR : ∀ (v : Int32) (m : dc_M), Φ (some ((v, m))) (some (.int v)) m)  {lv : ab_L} (f0 : ab_lk lv 0 = some (.ref x0)) (f1 : ab_lk lv 1 = some (.ref x1)) : dc_pv u N ab_M_X7_tellLevels 0 lv [] m (Φ (d_X7_tellLevels x0 x1 m)) := by
  refine dc_pv.mono (dc_ok (C := C_X7_tellLevels) (S := S_X7_tellLevels) CO_X7_tellLevels 400 0 [(0, .ref x0), (1, .ref x1)] lv [] m (dc_sub_cons f0 (dc_sub_cons f1 (dc_sub_nil))) ?_) (Nat.le_succ N)
  unfold d_X7_tellLevels
  refine dg_s (pc' := 1) [.int (0 : Int32)] rfl (fun _ => rfl) rfl ?_
  refine dg_L (pc' := 2) [(2, .int (0 : Int32)), (0, .ref x0), (1, .ref x1)] [] rfl (fun _ => rfl) rfl ?_
  refine dg_s (pc' := 3) [.int (0 : Int32)] rfl (fun _ => rfl) rfl ?_
  refine dg_L (pc' := 4) [(3, .int (0 : Int32)), (2, .int (0 : Int32)), (0, .ref x0), (1, .ref x1)] [] rfl (fun _ => rfl) rfl ?_
  refine dg_s (pc' := 5) [.int (0 : Int32)] rfl (fun _ => rfl) rfl ?_
  refine dw_L (pc' := 7) [(4, .int (0 : Int32)), (3, .int (0 : Int32)), (2, .int (0 : Int32)), (0, .ref x0), (1, .ref x1)] [] rfl (fun _ => rfl) ?_
  exact dw_j rfl (fun lv1 hv => k_X7_tellLevels_l7 (Φ := (fun t => Φ t)) x0 x1 m (fun _a _b => kR _a _b) N  (0 : Int32) (0 : Int32) (0 : Int32) lv1 (hv.1 _ rfl) (hv.2.1 _ rfl) (hv.2.2.1 _ rfl) (hv.2.2.2.1 _ rfl) (hv.2.2.2.2.1 _ rfl))
noncomputable def H_X7_tellLevels : dc_H := fun As m k => match As with
  | [.ref x0, .ref x1] => (d_X7_tellLevels x0 x1 m).bind (fun q => k (some (.int q.1)) q.2)
  | _ => dc_kz
theorem H_X7_tellLevels_ok {u : Nat} : dc_cok u 91 H_X7_tellLevels := fun M' hG N As m k P hz hP => by
  obtain rfl : ab_M_X7_tellLevels = M' := Option.some.inj hG
  unfold H_X7_tellLevels at hP
  split at hP
  · rename_i x0 x1
    exact dc_pv.imp (k_X7_tellLevels (Φ := fun (t : Option (Int32 × dc_M)) r m' => P (t.bind (fun q => k (some (.int q.1)) q.2)) → P (k r m')) x0 x1 m (fun _ _ h => h) rfl rfl) (fun r m' h => h hP)
  · exact absurd hP hz
noncomputable def C_X7_explore : List (Nat × dc_H) := [(238, H_J7_fill_53178), (89, H_X7_expand), (90, H_X7_meet), (91, H_X7_tellLevels)]
theorem CO_X7_explore {u : Nat} : dc_CO u C_X7_explore := dc_CO_cons H_J7_fill_53178_ok (dc_CO_cons H_X7_expand_ok (dc_CO_cons H_X7_meet_ok (dc_CO_cons H_X7_tellLevels_ok (dc_CO_nil))))
def S_X7_explore : List (Nat × List Nat) := [(41, [0, 1, 2]), (68, [0, 1]), (80, [0, 1])]
noncomputable def d_X7_explore_b80 (x0 : Nat) (x1 : Nat) (m : dc_M) : Option dc_M :=
  (if ¬ (Int32.toInt (m.1 x0 1)) = 0 then some ((dc_wi m x0 3 (0 : Int32))) else ((d_X7_tellLevels x0 x1 m).bind (fun q1 => (if (Int32.toInt q1.1) = 0 then some ((dc_wi q1.2 x0 3 (0 : Int32))) else some ((dc_wi q1.2 x0 3 (1 : Int32)))))))
set_option maxHeartbeats 8000000 in
theorem k_X7_explore_b80 {u : Nat} {N : Nat} {Φ : (Option dc_M) → Option Value → dc_M → Prop} (x0 : Nat) (x1 : Nat) (m : dc_M) (kR : ∀  (m : dc_M), Φ (some (m)) (none) m)  {lv : ab_L} (f0 : ab_lk lv 0 = some (.ref x0)) (f1 : ab_lk lv 1 = some (.ref x1)) : dc_pv u N ab_M_X7_explore 80 lv [] m (Φ (d_X7_explore_b80 x0 x1 m)) := by
  refine dc_pv.mono (dc_ok (C := C_X7_explore) (S := S_X7_explore) CO_X7_explore 400 80 [(0, .ref x0), (1, .ref x1)] lv [] m (dc_sub_cons f0 (dc_sub_cons f1 (dc_sub_nil))) ?_) (Nat.le_succ N)
  unfold d_X7_explore_b80
  refine dg_s (pc' := 81) [.ref x0] rfl (fun _ => rfl) rfl ?_
  refine dg_s (pc' := 82) [.ref x0, .ref x0] rfl (fun _ => rfl) rfl ?_
  refine dg_s (pc' := 85) [.int (m.1 x0 1), .ref x0] rfl (fun _ => rfl) rfl ?_
  refine dw_if (fun t => Φ t) (¬ (Int32.toInt (m.1 x0 1)) = 0) [.ref x0] 100 88 rfl (fun _ => rfl) (fun c0 => ?_) (fun c0 => ?_)
  · refine dw_g rfl ?_
    refine dg_s (pc' := 101) [.int (0 : Int32), .ref x0] rfl (fun _ => rfl) rfl ?_
    refine dg_m (pc' := 104) (dc_wi m x0 3 (0 : Int32)) [] rfl (fun _ => rfl) rfl ?_
    exact dw_r (some (.inl (none, (dc_wi m x0 3 (0 : Int32))))) rfl (fun _ => rfl) (kR _)
  · refine dw_g rfl ?_
    refine dg_s (pc' := 89) [.ref x0, .ref x0] rfl (fun _ => rfl) rfl ?_
    refine dg_s (pc' := 90) [.ref x1, .ref x0, .ref x0] rfl (fun _ => rfl) rfl ?_
    refine dw_b (fun t => Φ t) (pc' := 93) (fun q1 => [.int q1.1, .ref x0]) (fun q1 => q1.2) rfl (fun _ => rfl) (fun q1 => ?_)
    refine dw_g rfl ?_
    refine dw_if (fun t => Φ t) ((Int32.toInt q1.1) = 0) [.ref x0] 100 96 rfl (fun _ => rfl) (fun c1 => ?_) (fun c1 => ?_)
    · refine dw_g rfl ?_
      refine dg_s (pc' := 101) [.int (0 : Int32), .ref x0] rfl (fun _ => rfl) rfl ?_
      refine dg_m (pc' := 104) (dc_wi q1.2 x0 3 (0 : Int32)) [] rfl (fun _ => rfl) rfl ?_
      exact dw_r (some (.inl (none, (dc_wi q1.2 x0 3 (0 : Int32))))) rfl (fun _ => rfl) (kR _)
    · refine dw_g rfl ?_
      refine dg_s (pc' := 97) [.int (1 : Int32), .ref x0] rfl (fun _ => rfl) rfl ?_
      refine dg_s (pc' := 101) [.int (1 : Int32), .ref x0] rfl (fun _ => rfl) rfl ?_
      refine dg_m (pc' := 104) (dc_wi q1.2 x0 3 (1 : Int32)) [] rfl (fun _ => rfl) rfl ?_
      exact dw_r (some (.inl (none, (dc_wi q1.2 x0 3 (1 : Int32))))) rfl (fun _ => rfl) (kR _)
noncomputable def d_X7_explore_b68 (x0 : Nat) (x1 : Nat) (m : dc_M) : Option dc_M :=
  (if (Int32.toInt (m.1 x0 1)) = 0 then (d_X7_explore_b80 x0 x1 m) else (d_X7_explore_b80 x0 x1 (dc_wi m x0 0 (0 : Int32))))
set_option maxHeartbeats 8000000 in
theorem k_X7_explore_b68 {u : Nat} {N : Nat} {Φ : (Option dc_M) → Option Value → dc_M → Prop} (x0 : Nat) (x1 : Nat) (m : dc_M) (kR : ∀  (m : dc_M), Φ (some (m)) (none) m)  {lv : ab_L} (f0 : ab_lk lv 0 = some (.ref x0)) (f1 : ab_lk lv 1 = some (.ref x1)) : dc_pv u N ab_M_X7_explore 68 lv [] m (Φ (d_X7_explore_b68 x0 x1 m)) := by
  refine dc_pv.mono (dc_ok (C := C_X7_explore) (S := S_X7_explore) CO_X7_explore 400 68 [(0, .ref x0), (1, .ref x1)] lv [] m (dc_sub_cons f0 (dc_sub_cons f1 (dc_sub_nil))) ?_) (Nat.le_succ N)
  unfold d_X7_explore_b68
  refine dg_s (pc' := 69) [.ref x0] rfl (fun _ => rfl) rfl ?_
  refine dg_s (pc' := 72) [.int (m.1 x0 1)] rfl (fun _ => rfl) rfl ?_
  refine dw_if (fun t => Φ t) ((Int32.toInt (m.1 x0 1)) = 0) [] 80 75 rfl (fun _ => rfl) (fun c0 => ?_) (fun c0 => ?_)
  · exact dw_j rfl (fun lv1 hv => k_X7_explore_b80 (Φ := (fun t => Φ t)) x0 x1 m (fun _b => kR _b)  (hv.1 _ rfl) (hv.2.1 _ rfl))
  · refine dw_g rfl ?_
    refine dg_s (pc' := 76) [.ref x0] rfl (fun _ => rfl) rfl ?_
    refine dg_s (pc' := 77) [.int (0 : Int32), .ref x0] rfl (fun _ => rfl) rfl ?_
    refine dw_m (pc' := 80) (dc_wi m x0 0 (0 : Int32)) [] rfl (fun _ => rfl) ?_
    exact dw_j rfl (fun lv1 hv => k_X7_explore_b80 (Φ := (fun t => Φ t)) x0 x1 (dc_wi m x0 0 (0 : Int32)) (fun _b => kR _b)  (hv.1 _ rfl) (hv.2.1 _ rfl))
noncomputable def d_X7_explore_l41b (x0 : Nat) (x1 : Nat) (x2 : Int32) (m : dc_M) : Option ((Int32 × dc_M) ⊕ dc_M) :=
  (if (Int32.toInt (m.1 x0 0)) ≤ (Int32.toInt x2) then ((d_X7_explore_b68 x0 x1 m).map (fun z => Sum.inr (z))) else (if ¬ (Int32.toInt (m.1 x0 1)) = 0 then ((d_X7_explore_b68 x0 x1 m).map (fun z => Sum.inr (z))) else ((d_X7_expand x0 x1 x2 m).bind (fun q1 => some (Sum.inl ((x2 + (1 : Int32)), q1))))))
noncomputable def d_X7_explore_l41s (x0 : Nat) (x1 : Nat) : (Int32 × dc_M) → Option ((Int32 × dc_M) ⊕ dc_M) := fun s => d_X7_explore_l41b x0 x1 s.1 s.2
noncomputable def d_X7_explore_l41 (x0 : Nat) (x1 : Nat) (x2 : Int32) (m : dc_M) : Option dc_M := dc_lp (d_X7_explore_l41s x0 x1) (x2, m)
set_option maxHeartbeats 8000000 in
theorem k_X7_explore_l41 {u : Nat} {Φ : (Option dc_M) → Option Value → dc_M → Prop} (x0 : Nat) (x1 : Nat) (kR : ∀  (m : dc_M), Φ (some (m)) (none) m) : ∀ (N : Nat), ∀ (x2 : Int32) (m : dc_M) (lv : ab_L), ab_lk lv 0 = some (.ref x0) → ab_lk lv 1 = some (.ref x1) → ab_lk lv 2 = some (.int x2) → dc_pv u N ab_M_X7_explore 41 lv [] m (Φ (d_X7_explore_l41 x0 x1 x2 m)) := by
  intro N
  induction N with
  | zero => intros; exact dc_pv_zero
  | succ N ih =>
    intro x2 m lv f0 f1 f2
    refine dc_ok (C := C_X7_explore) (S := S_X7_explore) CO_X7_explore 400 41 [(0, .ref x0), (1, .ref x1), (2, .int x2)] lv [] m (dc_sub_cons f0 (dc_sub_cons f1 (dc_sub_cons f2 (dc_sub_nil)))) ?_
    unfold d_X7_explore_l41
    rw [dc_lp_eq]
    show (fun t x => dc_lf u N ab_M_X7_explore (Φ (Option.bind t (dc_bk (d_X7_explore_l41s x0 x1)))) x) (d_X7_explore_l41b x0 x1 x2 m) _
    dsimp only
    unfold d_X7_explore_l41b
    refine dg_s (pc' := 42) [.int x2] rfl (fun _ => rfl) rfl ?_
    refine dg_s (pc' := 43) [.ref x0, .int x2] rfl (fun _ => rfl) rfl ?_
    refine dg_s (pc' := 46) [.int (m.1 x0 0), .int x2] rfl (fun _ => rfl) rfl ?_
    refine dw_if (fun t => Φ (Option.bind t (dc_bk (d_X7_explore_l41s x0 x1)))) ((Int32.toInt (m.1 x0 0)) ≤ (Int32.toInt x2)) [] 68 49 rfl (fun _ => rfl) (fun c0 => ?_) (fun c0 => ?_)
    · exact dw_j rfl (fun lv1 hv => k_X7_explore_b68 (Φ := (fun t => Φ (Option.bind (t.map (fun z => Sum.inr (z))) (dc_bk (d_X7_explore_l41s x0 x1))))) x0 x1 m (fun _b => kR _b)  (hv.1 _ rfl) (hv.2.1 _ rfl))
    · refine dw_g rfl ?_
      refine dg_s (pc' := 50) [.ref x0] rfl (fun _ => rfl) rfl ?_
      refine dg_s (pc' := 53) [.int (m.1 x0 1)] rfl (fun _ => rfl) rfl ?_
      refine dw_if (fun t => Φ (Option.bind t (dc_bk (d_X7_explore_l41s x0 x1)))) (¬ (Int32.toInt (m.1 x0 1)) = 0) [] 68 56 rfl (fun _ => rfl) (fun c1 => ?_) (fun c1 => ?_)
      · exact dw_j rfl (fun lv1 hv => k_X7_explore_b68 (Φ := (fun t => Φ (Option.bind (t.map (fun z => Sum.inr (z))) (dc_bk (d_X7_explore_l41s x0 x1))))) x0 x1 m (fun _b => kR _b)  (hv.1 _ rfl) (hv.2.1 _ rfl))
      · refine dw_g rfl ?_
        refine dg_s (pc' := 57) [.ref x0] rfl (fun _ => rfl) rfl ?_
        refine dg_s (pc' := 58) [.ref x1, .ref x0] rfl (fun _ => rfl) rfl ?_
        refine dg_s (pc' := 59) [.int x2, .ref x1, .ref x0] rfl (fun _ => rfl) rfl ?_
        refine dw_b (fun t => Φ (Option.bind t (dc_bk (d_X7_explore_l41s x0 x1)))) (pc' := 62) (fun q1 => []) (fun q1 => q1) rfl (fun _ => rfl) (fun q1 => ?_)
        refine dw_g rfl ?_
        refine dg_L (pc' := 65) [(2, .int (x2 + (1 : Int32))), (0, .ref x0), (1, .ref x1)] [] rfl (fun _ => rfl) rfl ?_
        refine dw_s (pc' := 41) [] rfl (fun _ => rfl) ?_
        exact dw_j rfl (fun lv1 hv => ih (x2 + (1 : Int32)) q1 lv1 (hv.1 _ rfl) (hv.2.1 _ rfl) (hv.2.2.1 _ rfl))
noncomputable def d_X7_explore (x0 : Nat) (x1 : Nat) (m : dc_M) : Option dc_M :=
  ((d_J7_fill_53178 (x0 + 6) (0 : Int32) (dc_wi (dc_wi (dc_wi (dc_wi m x0 0 (0 : Int32)) x0 1 (0 : Int32)) x0 2 (0 : Int32)) x0 11 (-100 : Int32))).bind (fun q1 => ((d_X7_meet x0 (q1.1 x1 13) (0 : Int32) q1).bind (fun q2 => (d_X7_explore_l41 x0 x1 (0 : Int32) q2.2)))))
set_option maxHeartbeats 8000000 in
theorem k_X7_explore {u : Nat} {N : Nat} {Φ : (Option dc_M) → Option Value → dc_M → Prop} (x0 : Nat) (x1 : Nat) (m : dc_M) (kR : ∀  (m : dc_M), Φ (some (m)) (none) m)  {lv : ab_L} (f0 : ab_lk lv 0 = some (.ref x0)) (f1 : ab_lk lv 1 = some (.ref x1)) : dc_pv u N ab_M_X7_explore 0 lv [] m (Φ (d_X7_explore x0 x1 m)) := by
  refine dc_pv.mono (dc_ok (C := C_X7_explore) (S := S_X7_explore) CO_X7_explore 400 0 [(0, .ref x0), (1, .ref x1)] lv [] m (dc_sub_cons f0 (dc_sub_cons f1 (dc_sub_nil))) ?_) (Nat.le_succ N)
  unfold d_X7_explore
  refine dg_s (pc' := 1) [.ref x0] rfl (fun _ => rfl) rfl ?_
  refine dg_s (pc' := 2) [.int (0 : Int32), .ref x0] rfl (fun _ => rfl) rfl ?_
  refine dg_m (pc' := 5) (dc_wi m x0 0 (0 : Int32)) [] rfl (fun _ => rfl) rfl ?_
  refine dg_s (pc' := 6) [.ref x0] rfl (fun _ => rfl) rfl ?_
  refine dg_s (pc' := 7) [.int (0 : Int32), .ref x0] rfl (fun _ => rfl) rfl ?_
  refine dg_m (pc' := 10) (dc_wi (dc_wi m x0 0 (0 : Int32)) x0 1 (0 : Int32)) [] rfl (fun _ => rfl) rfl ?_
  refine dg_s (pc' := 11) [.ref x0] rfl (fun _ => rfl) rfl ?_
  refine dg_s (pc' := 12) [.int (0 : Int32), .ref x0] rfl (fun _ => rfl) rfl ?_
  refine dg_m (pc' := 15) (dc_wi (dc_wi (dc_wi m x0 0 (0 : Int32)) x0 1 (0 : Int32)) x0 2 (0 : Int32)) [] rfl (fun _ => rfl) rfl ?_
  refine dg_s (pc' := 16) [.ref x0] rfl (fun _ => rfl) rfl ?_
  refine dg_s (pc' := 18) [.int (-100 : Int32), .ref x0] rfl (fun _ => rfl) rfl ?_
  refine dg_m (pc' := 21) (dc_wi (dc_wi (dc_wi (dc_wi m x0 0 (0 : Int32)) x0 1 (0 : Int32)) x0 2 (0 : Int32)) x0 11 (-100 : Int32)) [] rfl (fun _ => rfl) rfl ?_
  refine dg_s (pc' := 22) [.ref x0] rfl (fun _ => rfl) rfl ?_
  refine dg_s (pc' := 25) [.ref (x0 + 6)] rfl (fun _ => rfl) rfl ?_
  refine dg_s (pc' := 26) [.int (0 : Int32), .ref (x0 + 6)] rfl (fun _ => rfl) rfl ?_
  refine dw_b (fun t => Φ t) (pc' := 29) (fun q1 => []) (fun q1 => q1) rfl (fun _ => rfl) (fun q1 => ?_)
  refine dw_g rfl ?_
  refine dg_s (pc' := 30) [.ref x0] rfl (fun _ => rfl) rfl ?_
  refine dg_s (pc' := 31) [.ref x1, .ref x0] rfl (fun _ => rfl) rfl ?_
  refine dg_s (pc' := 34) [.int (q1.1 x1 13), .ref x0] rfl (fun _ => rfl) rfl ?_
  refine dg_s (pc' := 35) [.int (0 : Int32), .int (q1.1 x1 13), .ref x0] rfl (fun _ => rfl) rfl ?_
  refine dw_b (fun t => Φ t) (pc' := 38) (fun q2 => [.int q2.1]) (fun q2 => q2.2) rfl (fun _ => rfl) (fun q2 => ?_)
  refine dw_g rfl ?_
  refine dg_s (pc' := 39) [] rfl (fun _ => rfl) rfl ?_
  refine dg_s (pc' := 40) [.int (0 : Int32)] rfl (fun _ => rfl) rfl ?_
  refine dw_L (pc' := 41) [(2, .int (0 : Int32)), (0, .ref x0), (1, .ref x1)] [] rfl (fun _ => rfl) ?_
  exact dw_j rfl (fun lv1 hv => k_X7_explore_l41 (Φ := (fun t => Φ t)) x0 x1 (fun _b => kR _b) N  (0 : Int32) q2.2 lv1 (hv.1 _ rfl) (hv.2.1 _ rfl) (hv.2.2.1 _ rfl))
noncomputable def H_X7_explore : dc_H := fun As m k => match As with
  | [.ref x0, .ref x1] => (d_X7_explore x0 x1 m).bind (fun q => k (none) q)
  | _ => dc_kz
theorem H_X7_explore_ok {u : Nat} : dc_cok u 82 H_X7_explore := fun M' hG N As m k P hz hP => by
  obtain rfl : ab_M_X7_explore = M' := Option.some.inj hG
  unfold H_X7_explore at hP
  split at hP
  · rename_i x0 x1
    exact dc_pv.imp (k_X7_explore (Φ := fun (t : Option dc_M) r m' => P (t.bind (fun q => k (none) q)) → P (k r m')) x0 x1 m (fun _ h => h) rfl rfl) (fun r m' h => h hP)
  · exact absurd hP hz
noncomputable def C_X9_explore : List (Nat × dc_H) := [(82, H_X7_explore)]
theorem CO_X9_explore {u : Nat} : dc_CO u C_X9_explore := dc_CO_cons H_X7_explore_ok (dc_CO_nil)
def S_X9_explore : List (Nat × List Nat) := []
noncomputable def d_X9_explore (x0 : Nat) (m : dc_M) : Option dc_M :=
  (if ¬ (Int32.toInt (m.1 x0 11)) = 0 then some (m) else ((d_X7_explore (x0 + 3) (m.2.2.1 x0 7) m).bind (fun q1 => some ((dc_wi q1 x0 11 (1 : Int32))))))
set_option maxHeartbeats 8000000 in
theorem k_X9_explore {u : Nat} {N : Nat} {Φ : (Option dc_M) → Option Value → dc_M → Prop} (x0 : Nat) (m : dc_M) (kR : ∀  (m : dc_M), Φ (some (m)) (none) m)  {lv : ab_L} (f0 : ab_lk lv 0 = some (.ref x0)) : dc_pv u N ab_M_X9_explore 0 lv [] m (Φ (d_X9_explore x0 m)) := by
  refine dc_pv.mono (dc_ok (C := C_X9_explore) (S := S_X9_explore) CO_X9_explore 400 0 [(0, .ref x0)] lv [] m (dc_sub_cons f0 (dc_sub_nil)) ?_) (Nat.le_succ N)
  unfold d_X9_explore
  refine dg_s (pc' := 1) [.ref x0] rfl (fun _ => rfl) rfl ?_
  refine dg_s (pc' := 4) [.int (m.1 x0 11)] rfl (fun _ => rfl) rfl ?_
  refine dw_if (fun t => Φ t) (¬ (Int32.toInt (m.1 x0 11)) = 0) [] 23 7 rfl (fun _ => rfl) (fun c0 => ?_) (fun c0 => ?_)
  · refine dw_g rfl ?_
    exact dw_r (some (.inl (none, m))) rfl (fun _ => rfl) (kR _)
  · refine dw_g rfl ?_
    refine dg_s (pc' := 8) [.ref x0] rfl (fun _ => rfl) rfl ?_
    refine dg_s (pc' := 11) [.ref (x0 + 3)] rfl (fun _ => rfl) rfl ?_
    refine dg_s (pc' := 12) [.ref x0, .ref (x0 + 3)] rfl (fun _ => rfl) rfl ?_
    refine dg_s (pc' := 15) [.ref (m.2.2.1 x0 7), .ref (x0 + 3)] rfl (fun _ => rfl) rfl ?_
    refine dw_b (fun t => Φ t) (pc' := 18) (fun q1 => []) (fun q1 => q1) rfl (fun _ => rfl) (fun q1 => ?_)
    refine dw_g rfl ?_
    refine dg_s (pc' := 19) [.ref x0] rfl (fun _ => rfl) rfl ?_
    refine dg_s (pc' := 20) [.int (1 : Int32), .ref x0] rfl (fun _ => rfl) rfl ?_
    refine dg_m (pc' := 23) (dc_wi q1 x0 11 (1 : Int32)) [] rfl (fun _ => rfl) rfl ?_
    exact dw_r (some (.inl (none, (dc_wi q1 x0 11 (1 : Int32))))) rfl (fun _ => rfl) (kR _)
noncomputable def H_X9_explore : dc_H := fun As m k => match As with
  | [.ref x0] => (d_X9_explore x0 m).bind (fun q => k (none) q)
  | _ => dc_kz
theorem H_X9_explore_ok {u : Nat} : dc_cok u 134 H_X9_explore := fun M' hG N As m k P hz hP => by
  obtain rfl : ab_M_X9_explore = M' := Option.some.inj hG
  unfold H_X9_explore at hP
  split at hP
  · rename_i x0
    exact dc_pv.imp (k_X9_explore (Φ := fun (t : Option dc_M) r m' => P (t.bind (fun q => k (none) q)) → P (k r m')) x0 m (fun _ h => h) rfl) (fun r m' h => h hP)
  · exact absurd hP hz
noncomputable def C_X9_states : List (Nat × dc_H) := [(134, H_X9_explore)]
theorem CO_X9_states {u : Nat} : dc_CO u C_X9_states := dc_CO_cons H_X9_explore_ok (dc_CO_nil)
def S_X9_states : List (Nat × List Nat) := []
noncomputable def d_X9_states (x0 : Nat) (m : dc_M) : Option (Int32 × dc_M) :=
  ((d_X9_explore x0 m).bind (fun q1 => (if (Int32.toInt (q1.1 (x0 + 3) 1)) = 0 then some (((q1.1 (x0 + 3) 0), q1)) else some (((q1.1 (x0 + 3) 1), q1)))))
set_option maxHeartbeats 8000000 in
theorem k_X9_states {u : Nat} {N : Nat} {Φ : (Option (Int32 × dc_M)) → Option Value → dc_M → Prop} (x0 : Nat) (m : dc_M) (kR : ∀ (v : Int32) (m : dc_M), Φ (some ((v, m))) (some (.int v)) m)  {lv : ab_L} (f0 : ab_lk lv 0 = some (.ref x0)) : dc_pv u N ab_M_X9_states 0 lv [] m (Φ (d_X9_states x0 m)) := by
  refine dc_pv.mono (dc_ok (C := C_X9_states) (S := S_X9_states) CO_X9_states 400 0 [(0, .ref x0)] lv [] m (dc_sub_cons f0 (dc_sub_nil)) ?_) (Nat.le_succ N)
  unfold d_X9_states
  refine dg_s (pc' := 1) [.ref x0] rfl (fun _ => rfl) rfl ?_
  refine dw_b (fun t => Φ t) (pc' := 4) (fun q1 => []) (fun q1 => q1) rfl (fun _ => rfl) (fun q1 => ?_)
  refine dw_g rfl ?_
  refine dg_s (pc' := 5) [.ref x0] rfl (fun _ => rfl) rfl ?_
  refine dg_s (pc' := 8) [.ref (x0 + 3)] rfl (fun _ => rfl) rfl ?_
  refine dg_s (pc' := 11) [.int (q1.1 (x0 + 3) 1)] rfl (fun _ => rfl) rfl ?_
  refine dw_if (fun t => Φ t) ((Int32.toInt (q1.1 (x0 + 3) 1)) = 0) [] 24 14 rfl (fun _ => rfl) (fun c0 => ?_) (fun c0 => ?_)
  · refine dw_g rfl ?_
    refine dg_s (pc' := 25) [.ref x0] rfl (fun _ => rfl) rfl ?_
    refine dg_s (pc' := 28) [.ref (x0 + 3)] rfl (fun _ => rfl) rfl ?_
    refine dg_s (pc' := 31) [.int (q1.1 (x0 + 3) 0)] rfl (fun _ => rfl) rfl ?_
    exact dw_r (some (.inl (some (.int (q1.1 (x0 + 3) 0)), q1))) rfl (fun _ => rfl) (kR _ _)
  · refine dw_g rfl ?_
    refine dg_s (pc' := 15) [.ref x0] rfl (fun _ => rfl) rfl ?_
    refine dg_s (pc' := 18) [.ref (x0 + 3)] rfl (fun _ => rfl) rfl ?_
    refine dg_s (pc' := 21) [.int (q1.1 (x0 + 3) 1)] rfl (fun _ => rfl) rfl ?_
    refine dg_s (pc' := 31) [.int (q1.1 (x0 + 3) 1)] rfl (fun _ => rfl) rfl ?_
    exact dw_r (some (.inl (some (.int (q1.1 (x0 + 3) 1)), q1))) rfl (fun _ => rfl) (kR _ _)
noncomputable def H_X9_states : dc_H := fun As m k => match As with
  | [.ref x0] => (d_X9_states x0 m).bind (fun q => k (some (.int q.1)) q.2)
  | _ => dc_kz
theorem H_X9_states_ok {u : Nat} : dc_cok u 108 H_X9_states := fun M' hG N As m k P hz hP => by
  obtain rfl : ab_M_X9_states = M' := Option.some.inj hG
  unfold H_X9_states at hP
  split at hP
  · rename_i x0
    exact dc_pv.imp (k_X9_states (Φ := fun (t : Option (Int32 × dc_M)) r m' => P (t.bind (fun q => k (some (.int q.1)) q.2)) → P (k r m')) x0 m (fun _ _ h => h) rfl) (fun r m' h => h hP)
  · exact absurd hP hz
noncomputable def C_X9_isRight : List (Nat × dc_H) := [(134, H_X9_explore)]
theorem CO_X9_isRight {u : Nat} : dc_CO u C_X9_isRight := dc_CO_cons H_X9_explore_ok (dc_CO_nil)
def S_X9_isRight : List (Nat × List Nat) := []
noncomputable def d_X9_isRight (x0 : Nat) (m : dc_M) : Option (Int32 × dc_M) :=
  ((d_X9_explore x0 m).bind (fun q1 => some (((q1.1 (x0 + 3) 3), q1))))
set_option maxHeartbeats 8000000 in
theorem k_X9_isRight {u : Nat} {N : Nat} {Φ : (Option (Int32 × dc_M)) → Option Value → dc_M → Prop} (x0 : Nat) (m : dc_M) (kR : ∀ (v : Int32) (m : dc_M), Φ (some ((v, m))) (some (.int v)) m)  {lv : ab_L} (f0 : ab_lk lv 0 = some (.ref x0)) : dc_pv u N ab_M_X9_isRight 0 lv [] m (Φ (d_X9_isRight x0 m)) := by
  refine dc_pv.mono (dc_ok (C := C_X9_isRight) (S := S_X9_isRight) CO_X9_isRight 400 0 [(0, .ref x0)] lv [] m (dc_sub_cons f0 (dc_sub_nil)) ?_) (Nat.le_succ N)
  unfold d_X9_isRight
  refine dg_s (pc' := 1) [.ref x0] rfl (fun _ => rfl) rfl ?_
  refine dw_b (fun t => Φ t) (pc' := 4) (fun q1 => []) (fun q1 => q1) rfl (fun _ => rfl) (fun q1 => ?_)
  refine dw_g rfl ?_
  refine dg_s (pc' := 5) [.ref x0] rfl (fun _ => rfl) rfl ?_
  refine dg_s (pc' := 8) [.ref (x0 + 3)] rfl (fun _ => rfl) rfl ?_
  refine dg_s (pc' := 11) [.int (q1.1 (x0 + 3) 3)] rfl (fun _ => rfl) rfl ?_
  exact dw_r (some (.inl (some (.int (q1.1 (x0 + 3) 3)), q1))) rfl (fun _ => rfl) (kR _ _)
noncomputable def H_X9_isRight : dc_H := fun As m k => match As with
  | [.ref x0] => (d_X9_isRight x0 m).bind (fun q => k (some (.int q.1)) q.2)
  | _ => dc_kz
theorem H_X9_isRight_ok {u : Nat} : dc_cok u 135 H_X9_isRight := fun M' hG N As m k P hz hP => by
  obtain rfl : ab_M_X9_isRight = M' := Option.some.inj hG
  unfold H_X9_isRight at hP
  split at hP
  · rename_i x0
    exact dc_pv.imp (k_X9_isRight (Φ := fun (t : Option (Int32 × dc_M)) r m' => P (t.bind (fun q => k (some (.int q.1)) q.2)) → P (k r m')) x0 m (fun _ _ h => h) rfl) (fun r m' h => h hP)
  · exact absurd hP hz
noncomputable def C_X9_right : List (Nat × dc_H) := [(135, H_X9_isRight)]
theorem CO_X9_right {u : Nat} : dc_CO u C_X9_right := dc_CO_cons H_X9_isRight_ok (dc_CO_nil)
def S_X9_right : List (Nat × List Nat) := []
noncomputable def d_X9_right (x0 : Nat) (m : dc_M) : Option (Int32 × dc_M) :=
  ((d_X9_isRight x0 m).bind (fun q1 => (if (Int32.toInt q1.1) = 0 then some (((0 : Int32), q1.2)) else some (((1 : Int32), q1.2)))))
set_option maxHeartbeats 8000000 in
theorem k_X9_right {u : Nat} {N : Nat} {Φ : (Option (Int32 × dc_M)) → Option Value → dc_M → Prop} (x0 : Nat) (m : dc_M) (kR : ∀ (v : Int32) (m : dc_M), Φ (some ((v, m))) (some (.int v)) m)  {lv : ab_L} (f0 : ab_lk lv 0 = some (.ref x0)) : dc_pv u N ab_M_X9_right 0 lv [] m (Φ (d_X9_right x0 m)) := by
  refine dc_pv.mono (dc_ok (C := C_X9_right) (S := S_X9_right) CO_X9_right 400 0 [(0, .ref x0)] lv [] m (dc_sub_cons f0 (dc_sub_nil)) ?_) (Nat.le_succ N)
  unfold d_X9_right
  refine dg_s (pc' := 1) [.ref x0] rfl (fun _ => rfl) rfl ?_
  refine dw_b (fun t => Φ t) (pc' := 4) (fun q1 => [.int q1.1]) (fun q1 => q1.2) rfl (fun _ => rfl) (fun q1 => ?_)
  refine dw_g rfl ?_
  refine dw_if (fun t => Φ t) ((Int32.toInt q1.1) = 0) [] 11 7 rfl (fun _ => rfl) (fun c0 => ?_) (fun c0 => ?_)
  · refine dw_g rfl ?_
    refine dg_s (pc' := 12) [.int (0 : Int32)] rfl (fun _ => rfl) rfl ?_
    exact dw_r (some (.inl (some (.int (0 : Int32)), q1.2))) rfl (fun _ => rfl) (kR _ _)
  · refine dw_g rfl ?_
    refine dg_s (pc' := 8) [.int (1 : Int32)] rfl (fun _ => rfl) rfl ?_
    refine dg_s (pc' := 12) [.int (1 : Int32)] rfl (fun _ => rfl) rfl ?_
    exact dw_r (some (.inl (some (.int (1 : Int32)), q1.2))) rfl (fun _ => rfl) (kR _ _)
noncomputable def H_X9_right : dc_H := fun As m k => match As with
  | [.ref x0] => (d_X9_right x0 m).bind (fun q => k (some (.int q.1)) q.2)
  | _ => dc_kz
theorem H_X9_right_ok {u : Nat} : dc_cok u 109 H_X9_right := fun M' hG N As m k P hz hP => by
  obtain rfl : ab_M_X9_right = M' := Option.some.inj hG
  unfold H_X9_right at hP
  split at hP
  · rename_i x0
    exact dc_pv.imp (k_X9_right (Φ := fun (t : Option (Int32 × dc_M)) r m' => P (t.bind (fun q => k (some (.int q.1)) q.2)) → P (k r m')) x0 m (fun _ _ h => h) rfl) (fun r m' h => h hP)
  · exact absurd hP hz
def C_X3_hasEvent : List (Nat × dc_H) := []
theorem CO_X3_hasEvent {u : Nat} : dc_CO u C_X3_hasEvent := dc_CO_nil
def S_X3_hasEvent : List (Nat × List Nat) := []
def d_X3_hasEvent (x0 : Nat) (x1 : Int32) (m : dc_M) : Int32 :=
  (if (Int32.toInt x1) < 0 then (0 : Int32) else (if (Int32.toInt (m.1 x0 1)) ≤ (Int32.toInt x1) then (0 : Int32) else (1 : Int32)))
set_option maxHeartbeats 8000000 in
theorem k_X3_hasEvent {u : Nat} {N : Nat} {Φ : Int32 → Option Value → dc_M → Prop} (x0 : Nat) (x1 : Int32) (m : dc_M) (kR : ∀ (v : Int32), Φ (v) (some (.int v)) m)  {lv : ab_L} (f0 : ab_lk lv 0 = some (.ref x0)) (f1 : ab_lk lv 1 = some (.int x1)) : dc_pv u N ab_M_X3_hasEvent 0 lv [] m (Φ (d_X3_hasEvent x0 x1 m)) := by
  refine dc_pv.mono (dc_ok (C := C_X3_hasEvent) (S := S_X3_hasEvent) CO_X3_hasEvent 400 0 [(0, .ref x0), (1, .int x1)] lv [] m (dc_sub_cons f0 (dc_sub_cons f1 (dc_sub_nil))) ?_) (Nat.le_succ N)
  unfold d_X3_hasEvent
  refine dg_s (pc' := 1) [.int x1] rfl (fun _ => rfl) rfl ?_
  refine dw_if (fun t => Φ t) ((Int32.toInt x1) < 0) [] 16 4 rfl (fun _ => rfl) (fun c0 => ?_) (fun c0 => ?_)
  · refine dw_g rfl ?_
    refine dg_s (pc' := 17) [.int (0 : Int32)] rfl (fun _ => rfl) rfl ?_
    exact dw_r (some (.inl (some (.int (0 : Int32)), m))) rfl (fun _ => rfl) (kR _)
  · refine dw_g rfl ?_
    refine dg_s (pc' := 5) [.int x1] rfl (fun _ => rfl) rfl ?_
    refine dg_s (pc' := 6) [.ref x0, .int x1] rfl (fun _ => rfl) rfl ?_
    refine dg_s (pc' := 9) [.int (m.1 x0 1), .int x1] rfl (fun _ => rfl) rfl ?_
    refine dw_if (fun t => Φ t) ((Int32.toInt (m.1 x0 1)) ≤ (Int32.toInt x1)) [] 16 12 rfl (fun _ => rfl) (fun c1 => ?_) (fun c1 => ?_)
    · refine dw_g rfl ?_
      refine dg_s (pc' := 17) [.int (0 : Int32)] rfl (fun _ => rfl) rfl ?_
      exact dw_r (some (.inl (some (.int (0 : Int32)), m))) rfl (fun _ => rfl) (kR _)
    · refine dw_g rfl ?_
      refine dg_s (pc' := 13) [.int (1 : Int32)] rfl (fun _ => rfl) rfl ?_
      refine dg_s (pc' := 17) [.int (1 : Int32)] rfl (fun _ => rfl) rfl ?_
      exact dw_r (some (.inl (some (.int (1 : Int32)), m))) rfl (fun _ => rfl) (kR _)
def H_X3_hasEvent : dc_H := fun As m k => match As with
  | [.ref x0, .int x1] => k (some (.int (d_X3_hasEvent x0 x1 m))) m
  | _ => dc_kz
theorem H_X3_hasEvent_ok {u : Nat} : dc_cok u 26 H_X3_hasEvent := fun M' hG N As m k P hz hP => by
  obtain rfl : ab_M_X3_hasEvent = M' := Option.some.inj hG
  unfold H_X3_hasEvent at hP
  split at hP
  · rename_i x0 x1
    exact dc_pv.imp (k_X3_hasEvent (Φ := fun (t : Int32) r m' => P (k (some (.int t)) m) → P (k r m')) x0 x1 m (fun _  h => h) rfl rfl) (fun r m' h => h hP)
  · exact absurd hP hz
def C_X7_aims : List (Nat × dc_H) := []
theorem CO_X7_aims {u : Nat} : dc_CO u C_X7_aims := dc_CO_nil
def S_X7_aims : List (Nat × List Nat) := []
def d_X7_aims (x0 : Nat) (x1 : Int32) (m : dc_M) : Int32 :=
  ((m.1 (x0 + 3) (Int32.toNatClampNeg x1)) ^^^ (m.1 (x0 + 4) (Int32.toNatClampNeg x1)))
set_option maxHeartbeats 8000000 in
theorem k_X7_aims {u : Nat} {N : Nat} {Φ : Int32 → Option Value → dc_M → Prop} (x0 : Nat) (x1 : Int32) (m : dc_M) (kR : ∀ (v : Int32), Φ (v) (some (.int v)) m)  {lv : ab_L} (f0 : ab_lk lv 0 = some (.ref x0)) (f1 : ab_lk lv 1 = some (.int x1)) : dc_pv u N ab_M_X7_aims 0 lv [] m (Φ (d_X7_aims x0 x1 m)) := by
  refine dc_pv.mono (dc_ok (C := C_X7_aims) (S := S_X7_aims) CO_X7_aims 400 0 [(0, .ref x0), (1, .int x1)] lv [] m (dc_sub_cons f0 (dc_sub_cons f1 (dc_sub_nil))) ?_) (Nat.le_succ N)
  unfold d_X7_aims
  refine dg_s (pc' := 1) [.ref x0] rfl (fun _ => rfl) rfl ?_
  refine dg_s (pc' := 4) [.ref (x0 + 3)] rfl (fun _ => rfl) rfl ?_
  refine dg_s (pc' := 5) [.int x1, .ref (x0 + 3)] rfl (fun _ => rfl) rfl ?_
  refine dg_s (pc' := 6) [.int (m.1 (x0 + 3) (Int32.toNatClampNeg x1))] rfl (fun _ => rfl) rfl ?_
  refine dg_s (pc' := 7) [.ref x0, .int (m.1 (x0 + 3) (Int32.toNatClampNeg x1))] rfl (fun _ => rfl) rfl ?_
  refine dg_s (pc' := 10) [.ref (x0 + 4), .int (m.1 (x0 + 3) (Int32.toNatClampNeg x1))] rfl (fun _ => rfl) rfl ?_
  refine dg_s (pc' := 11) [.int x1, .ref (x0 + 4), .int (m.1 (x0 + 3) (Int32.toNatClampNeg x1))] rfl (fun _ => rfl) rfl ?_
  refine dg_s (pc' := 12) [.int (m.1 (x0 + 4) (Int32.toNatClampNeg x1)), .int (m.1 (x0 + 3) (Int32.toNatClampNeg x1))] rfl (fun _ => rfl) rfl ?_
  refine dg_s (pc' := 13) [.int ((m.1 (x0 + 3) (Int32.toNatClampNeg x1)) ^^^ (m.1 (x0 + 4) (Int32.toNatClampNeg x1)))] rfl (fun _ => rfl) rfl ?_
  exact dw_r (some (.inl (some (.int ((m.1 (x0 + 3) (Int32.toNatClampNeg x1)) ^^^ (m.1 (x0 + 4) (Int32.toNatClampNeg x1)))), m))) rfl (fun _ => rfl) (kR _)
def H_X7_aims : dc_H := fun As m k => match As with
  | [.ref x0, .int x1] => k (some (.int (d_X7_aims x0 x1 m))) m
  | _ => dc_kz
theorem H_X7_aims_ok {u : Nat} : dc_cok u 83 H_X7_aims := fun M' hG N As m k P hz hP => by
  obtain rfl : ab_M_X7_aims = M' := Option.some.inj hG
  unfold H_X7_aims at hP
  split at hP
  · rename_i x0 x1
    exact dc_pv.imp (k_X7_aims (Φ := fun (t : Int32) r m' => P (k (some (.int t)) m) → P (k r m')) x0 x1 m (fun _  h => h) rfl rfl) (fun r m' h => h hP)
  · exact absurd hP hz
def C_X7_behind : List (Nat × dc_H) := []
theorem CO_X7_behind {u : Nat} : dc_CO u C_X7_behind := dc_CO_nil
def S_X7_behind : List (Nat × List Nat) := []
def d_X7_behind (x0 : Nat) (x1 : Int32) (x2 : Int32) (m : dc_M) : Int32 :=
  (if (Int32.toInt (((m.1 (x0 + 2) (Int32.toNatClampNeg x1)) >>> (x2 &&& 31)) &&& (1 : Int32))) = 0 then (-4 : Int32) else (m.1 (x0 + 5) (Int32.toNatClampNeg ((x1 * (16 : Int32)) + x2))))
set_option maxHeartbeats 8000000 in
theorem k_X7_behind {u : Nat} {N : Nat} {Φ : Int32 → Option Value → dc_M → Prop} (x0 : Nat) (x1 : Int32) (x2 : Int32) (m : dc_M) (kR : ∀ (v : Int32), Φ (v) (some (.int v)) m)  {lv : ab_L} (f0 : ab_lk lv 0 = some (.ref x0)) (f1 : ab_lk lv 1 = some (.int x1)) (f2 : ab_lk lv 2 = some (.int x2)) : dc_pv u N ab_M_X7_behind 0 lv [] m (Φ (d_X7_behind x0 x1 x2 m)) := by
  refine dc_pv.mono (dc_ok (C := C_X7_behind) (S := S_X7_behind) CO_X7_behind 400 0 [(0, .ref x0), (1, .int x1), (2, .int x2)] lv [] m (dc_sub_cons f0 (dc_sub_cons f1 (dc_sub_cons f2 (dc_sub_nil)))) ?_) (Nat.le_succ N)
  unfold d_X7_behind
  refine dg_s (pc' := 1) [.ref x0] rfl (fun _ => rfl) rfl ?_
  refine dg_s (pc' := 4) [.ref (x0 + 2)] rfl (fun _ => rfl) rfl ?_
  refine dg_s (pc' := 5) [.int x1, .ref (x0 + 2)] rfl (fun _ => rfl) rfl ?_
  refine dg_s (pc' := 6) [.int (m.1 (x0 + 2) (Int32.toNatClampNeg x1))] rfl (fun _ => rfl) rfl ?_
  refine dg_s (pc' := 7) [.int x2, .int (m.1 (x0 + 2) (Int32.toNatClampNeg x1))] rfl (fun _ => rfl) rfl ?_
  refine dg_s (pc' := 8) [.int ((m.1 (x0 + 2) (Int32.toNatClampNeg x1)) >>> (x2 &&& 31))] rfl (fun _ => rfl) rfl ?_
  refine dg_s (pc' := 9) [.int (1 : Int32), .int ((m.1 (x0 + 2) (Int32.toNatClampNeg x1)) >>> (x2 &&& 31))] rfl (fun _ => rfl) rfl ?_
  refine dg_s (pc' := 10) [.int (((m.1 (x0 + 2) (Int32.toNatClampNeg x1)) >>> (x2 &&& 31)) &&& (1 : Int32))] rfl (fun _ => rfl) rfl ?_
  refine dw_if (fun t => Φ t) ((Int32.toInt (((m.1 (x0 + 2) (Int32.toNatClampNeg x1)) >>> (x2 &&& 31)) &&& (1 : Int32))) = 0) [] 27 13 rfl (fun _ => rfl) (fun c0 => ?_) (fun c0 => ?_)
  · refine dw_g rfl ?_
    refine dg_s (pc' := 29) [.int (-4 : Int32)] rfl (fun _ => rfl) rfl ?_
    exact dw_r (some (.inl (some (.int (-4 : Int32)), m))) rfl (fun _ => rfl) (kR _)
  · refine dw_g rfl ?_
    refine dg_s (pc' := 14) [.ref x0] rfl (fun _ => rfl) rfl ?_
    refine dg_s (pc' := 17) [.ref (x0 + 5)] rfl (fun _ => rfl) rfl ?_
    refine dg_s (pc' := 18) [.int x1, .ref (x0 + 5)] rfl (fun _ => rfl) rfl ?_
    refine dg_s (pc' := 20) [.int (16 : Int32), .int x1, .ref (x0 + 5)] rfl (fun _ => rfl) rfl ?_
    refine dg_s (pc' := 21) [.int (x1 * (16 : Int32)), .ref (x0 + 5)] rfl (fun _ => rfl) rfl ?_
    refine dg_s (pc' := 22) [.int x2, .int (x1 * (16 : Int32)), .ref (x0 + 5)] rfl (fun _ => rfl) rfl ?_
    refine dg_s (pc' := 23) [.int ((x1 * (16 : Int32)) + x2), .ref (x0 + 5)] rfl (fun _ => rfl) rfl ?_
    refine dg_s (pc' := 24) [.int (m.1 (x0 + 5) (Int32.toNatClampNeg ((x1 * (16 : Int32)) + x2)))] rfl (fun _ => rfl) rfl ?_
    refine dg_s (pc' := 29) [.int (m.1 (x0 + 5) (Int32.toNatClampNeg ((x1 * (16 : Int32)) + x2)))] rfl (fun _ => rfl) rfl ?_
    exact dw_r (some (.inl (some (.int (m.1 (x0 + 5) (Int32.toNatClampNeg ((x1 * (16 : Int32)) + x2)))), m))) rfl (fun _ => rfl) (kR _)
def H_X7_behind : dc_H := fun As m k => match As with
  | [.ref x0, .int x1, .int x2] => k (some (.int (d_X7_behind x0 x1 x2 m))) m
  | _ => dc_kz
theorem H_X7_behind_ok {u : Nat} : dc_cok u 84 H_X7_behind := fun M' hG N As m k P hz hP => by
  obtain rfl : ab_M_X7_behind = M' := Option.some.inj hG
  unfold H_X7_behind at hP
  split at hP
  · rename_i x0 x1 x2
    exact dc_pv.imp (k_X7_behind (Φ := fun (t : Int32) r m' => P (k (some (.int t)) m) → P (k r m')) x0 x1 x2 m (fun _  h => h) rfl rfl rfl) (fun r m' h => h hP)
  · exact absurd hP hz
noncomputable def C_X9_of : List (Nat × dc_H) := [(26, H_X3_hasEvent), (83, H_X7_aims), (84, H_X7_behind), (134, H_X9_explore)]
theorem CO_X9_of {u : Nat} : dc_CO u C_X9_of := dc_CO_cons H_X3_hasEvent_ok (dc_CO_cons H_X7_aims_ok (dc_CO_cons H_X7_behind_ok (dc_CO_cons H_X9_explore_ok (dc_CO_nil))))
def S_X9_of : List (Nat × List Nat) := []
noncomputable def d_X9_of (x0 : Nat) (x1 : Int32) (x2 : Int32) (m : dc_M) : Option (Int32 × dc_M) :=
  ((d_X9_explore x0 m).bind (fun q1 => (if (Int32.toInt x1) < 0 then some (((-1 : Int32), q1)) else (if (Int32.toInt x1) < (Int32.toInt (q1.1 (x0 + 3) 0)) then (if (Int32.toInt x2) < 10 then (if (Int32.toInt x2) < 0 then some (((-1 : Int32), q1)) else (if (Int32.toInt x2) ≤ 4 then (if ¬ (Int32.toInt x2) = 0 then (if ¬ (Int32.toInt x2) = 1 then (if ¬ (Int32.toInt (q1.1 (x0 + 3) 3)) = 0 then (if ¬ (Int32.toInt x2) = 2 then (if ¬ (Int32.toInt x2) = 3 then some (((d_X7_aims (x0 + 3) x1 q1), q1)) else some (((q1.1 ((x0 + 3) + 4) (Int32.toNatClampNeg x1)), q1))) else some (((q1.1 ((x0 + 3) + 3) (Int32.toNatClampNeg x1)), q1))) else some (((-2 : Int32), q1))) else some (((q1.1 ((x0 + 3) + 2) (Int32.toNatClampNeg x1)), q1))) else some (((q1.1 ((x0 + 3) + 1) (Int32.toNatClampNeg x1)), q1))) else some (((-1 : Int32), q1)))) else (if (Int32.toInt (d_X3_hasEvent (q1.2.2.1 x0 7) (x2 - (10 : Int32)) q1)) = 0 then some (((-1 : Int32), q1)) else some (((d_X7_behind (x0 + 3) x1 (x2 - (10 : Int32)) q1), q1)))) else some (((-1 : Int32), q1))))))
set_option maxHeartbeats 8000000 in
theorem k_X9_of {u : Nat} {N : Nat} {Φ : (Option (Int32 × dc_M)) → Option Value → dc_M → Prop} (x0 : Nat) (x1 : Int32) (x2 : Int32) (m : dc_M) (kR : ∀ (v : Int32) (m : dc_M), Φ (some ((v, m))) (some (.int v)) m)  {lv : ab_L} (f0 : ab_lk lv 0 = some (.ref x0)) (f1 : ab_lk lv 1 = some (.int x1)) (f2 : ab_lk lv 2 = some (.int x2)) : dc_pv u N ab_M_X9_of 0 lv [] m (Φ (d_X9_of x0 x1 x2 m)) := by
  refine dc_pv.mono (dc_ok (C := C_X9_of) (S := S_X9_of) CO_X9_of 400 0 [(0, .ref x0), (1, .int x1), (2, .int x2)] lv [] m (dc_sub_cons f0 (dc_sub_cons f1 (dc_sub_cons f2 (dc_sub_nil)))) ?_) (Nat.le_succ N)
  unfold d_X9_of
  refine dg_s (pc' := 1) [.ref x0] rfl (fun _ => rfl) rfl ?_
  refine dw_b (fun t => Φ t) (pc' := 4) (fun q1 => []) (fun q1 => q1) rfl (fun _ => rfl) (fun q1 => ?_)
  refine dw_g rfl ?_
  refine dg_s (pc' := 5) [.int x1] rfl (fun _ => rfl) rfl ?_
  refine dw_if (fun t => Φ t) ((Int32.toInt x1) < 0) [] 19 8 rfl (fun _ => rfl) (fun c0 => ?_) (fun c0 => ?_)
  · refine dw_g rfl ?_
    refine dg_s (pc' := 20) [.int (-1 : Int32)] rfl (fun _ => rfl) rfl ?_
    exact dw_r (some (.inl (some (.int (-1 : Int32)), q1))) rfl (fun _ => rfl) (kR _ _)
  · refine dw_g rfl ?_
    refine dg_s (pc' := 9) [.int x1] rfl (fun _ => rfl) rfl ?_
    refine dg_s (pc' := 10) [.ref x0, .int x1] rfl (fun _ => rfl) rfl ?_
    refine dg_s (pc' := 13) [.ref (x0 + 3), .int x1] rfl (fun _ => rfl) rfl ?_
    refine dg_s (pc' := 16) [.int (q1.1 (x0 + 3) 0), .int x1] rfl (fun _ => rfl) rfl ?_
    refine dw_if (fun t => Φ t) ((Int32.toInt x1) < (Int32.toInt (q1.1 (x0 + 3) 0))) [] 21 19 rfl (fun _ => rfl) (fun c1 => ?_) (fun c1 => ?_)
    · refine dw_g rfl ?_
      refine dg_s (pc' := 22) [.int x2] rfl (fun _ => rfl) rfl ?_
      refine dg_s (pc' := 24) [.int (10 : Int32), .int x2] rfl (fun _ => rfl) rfl ?_
      refine dw_if (fun t => Φ t) ((Int32.toInt x2) < 10) [] 58 27 rfl (fun _ => rfl) (fun c2 => ?_) (fun c2 => ?_)
      · refine dw_g rfl ?_
        refine dg_s (pc' := 59) [.int x2] rfl (fun _ => rfl) rfl ?_
        refine dw_if (fun t => Φ t) ((Int32.toInt x2) < 0) [] 67 62 rfl (fun _ => rfl) (fun c3 => ?_) (fun c3 => ?_)
        · refine dw_g rfl ?_
          refine dg_s (pc' := 68) [.int (-1 : Int32)] rfl (fun _ => rfl) rfl ?_
          exact dw_r (some (.inl (some (.int (-1 : Int32)), q1))) rfl (fun _ => rfl) (kR _ _)
        · refine dw_g rfl ?_
          refine dg_s (pc' := 63) [.int x2] rfl (fun _ => rfl) rfl ?_
          refine dg_s (pc' := 64) [.int (4 : Int32), .int x2] rfl (fun _ => rfl) rfl ?_
          refine dw_if (fun t => Φ t) ((Int32.toInt x2) ≤ 4) [] 69 67 rfl (fun _ => rfl) (fun c4 => ?_) (fun c4 => ?_)
          · refine dw_g rfl ?_
            refine dg_s (pc' := 70) [.int x2] rfl (fun _ => rfl) rfl ?_
            refine dw_if (fun t => Φ t) (¬ (Int32.toInt x2) = 0) [] 83 73 rfl (fun _ => rfl) (fun c5 => ?_) (fun c5 => ?_)
            · refine dw_g rfl ?_
              refine dg_s (pc' := 84) [.int x2] rfl (fun _ => rfl) rfl ?_
              refine dg_s (pc' := 85) [.int (1 : Int32), .int x2] rfl (fun _ => rfl) rfl ?_
              refine dw_if (fun t => Φ t) (¬ (Int32.toInt x2) = 1) [] 98 88 rfl (fun _ => rfl) (fun c6 => ?_) (fun c6 => ?_)
              · refine dw_g rfl ?_
                refine dg_s (pc' := 99) [.ref x0] rfl (fun _ => rfl) rfl ?_
                refine dg_s (pc' := 102) [.ref (x0 + 3)] rfl (fun _ => rfl) rfl ?_
                refine dg_s (pc' := 105) [.int (q1.1 (x0 + 3) 3)] rfl (fun _ => rfl) rfl ?_
                refine dw_if (fun t => Φ t) (¬ (Int32.toInt (q1.1 (x0 + 3) 3)) = 0) [] 111 108 rfl (fun _ => rfl) (fun c7 => ?_) (fun c7 => ?_)
                · refine dw_g rfl ?_
                  refine dg_s (pc' := 112) [.int x2] rfl (fun _ => rfl) rfl ?_
                  refine dg_s (pc' := 113) [.int (2 : Int32), .int x2] rfl (fun _ => rfl) rfl ?_
                  refine dw_if (fun t => Φ t) (¬ (Int32.toInt x2) = 2) [] 128 116 rfl (fun _ => rfl) (fun c8 => ?_) (fun c8 => ?_)
                  · refine dw_g rfl ?_
                    refine dg_s (pc' := 129) [.int x2] rfl (fun _ => rfl) rfl ?_
                    refine dg_s (pc' := 130) [.int (3 : Int32), .int x2] rfl (fun _ => rfl) rfl ?_
                    refine dw_if (fun t => Φ t) (¬ (Int32.toInt x2) = 3) [] 145 133 rfl (fun _ => rfl) (fun c9 => ?_) (fun c9 => ?_)
                    · refine dw_g rfl ?_
                      refine dg_s (pc' := 146) [.ref x0] rfl (fun _ => rfl) rfl ?_
                      refine dg_s (pc' := 149) [.ref (x0 + 3)] rfl (fun _ => rfl) rfl ?_
                      refine dg_s (pc' := 150) [.int x1, .ref (x0 + 3)] rfl (fun _ => rfl) rfl ?_
                      refine dg_s (pc' := 153) [.int (d_X7_aims (x0 + 3) x1 q1)] rfl (fun _ => rfl) rfl ?_
                      exact dw_r (some (.inl (some (.int (d_X7_aims (x0 + 3) x1 q1)), q1))) rfl (fun _ => rfl) (kR _ _)
                    · refine dw_g rfl ?_
                      refine dg_s (pc' := 134) [.ref x0] rfl (fun _ => rfl) rfl ?_
                      refine dg_s (pc' := 137) [.ref (x0 + 3)] rfl (fun _ => rfl) rfl ?_
                      refine dg_s (pc' := 140) [.ref ((x0 + 3) + 4)] rfl (fun _ => rfl) rfl ?_
                      refine dg_s (pc' := 141) [.int x1, .ref ((x0 + 3) + 4)] rfl (fun _ => rfl) rfl ?_
                      refine dg_s (pc' := 142) [.int (q1.1 ((x0 + 3) + 4) (Int32.toNatClampNeg x1))] rfl (fun _ => rfl) rfl ?_
                      refine dg_s (pc' := 153) [.int (q1.1 ((x0 + 3) + 4) (Int32.toNatClampNeg x1))] rfl (fun _ => rfl) rfl ?_
                      exact dw_r (some (.inl (some (.int (q1.1 ((x0 + 3) + 4) (Int32.toNatClampNeg x1))), q1))) rfl (fun _ => rfl) (kR _ _)
                  · refine dw_g rfl ?_
                    refine dg_s (pc' := 117) [.ref x0] rfl (fun _ => rfl) rfl ?_
                    refine dg_s (pc' := 120) [.ref (x0 + 3)] rfl (fun _ => rfl) rfl ?_
                    refine dg_s (pc' := 123) [.ref ((x0 + 3) + 3)] rfl (fun _ => rfl) rfl ?_
                    refine dg_s (pc' := 124) [.int x1, .ref ((x0 + 3) + 3)] rfl (fun _ => rfl) rfl ?_
                    refine dg_s (pc' := 125) [.int (q1.1 ((x0 + 3) + 3) (Int32.toNatClampNeg x1))] rfl (fun _ => rfl) rfl ?_
                    refine dg_s (pc' := 153) [.int (q1.1 ((x0 + 3) + 3) (Int32.toNatClampNeg x1))] rfl (fun _ => rfl) rfl ?_
                    exact dw_r (some (.inl (some (.int (q1.1 ((x0 + 3) + 3) (Int32.toNatClampNeg x1))), q1))) rfl (fun _ => rfl) (kR _ _)
                · refine dw_g rfl ?_
                  refine dg_s (pc' := 110) [.int (-2 : Int32)] rfl (fun _ => rfl) rfl ?_
                  exact dw_r (some (.inl (some (.int (-2 : Int32)), q1))) rfl (fun _ => rfl) (kR _ _)
              · refine dw_g rfl ?_
                refine dg_s (pc' := 89) [.ref x0] rfl (fun _ => rfl) rfl ?_
                refine dg_s (pc' := 92) [.ref (x0 + 3)] rfl (fun _ => rfl) rfl ?_
                refine dg_s (pc' := 95) [.ref ((x0 + 3) + 2)] rfl (fun _ => rfl) rfl ?_
                refine dg_s (pc' := 96) [.int x1, .ref ((x0 + 3) + 2)] rfl (fun _ => rfl) rfl ?_
                refine dg_s (pc' := 97) [.int (q1.1 ((x0 + 3) + 2) (Int32.toNatClampNeg x1))] rfl (fun _ => rfl) rfl ?_
                exact dw_r (some (.inl (some (.int (q1.1 ((x0 + 3) + 2) (Int32.toNatClampNeg x1))), q1))) rfl (fun _ => rfl) (kR _ _)
            · refine dw_g rfl ?_
              refine dg_s (pc' := 74) [.ref x0] rfl (fun _ => rfl) rfl ?_
              refine dg_s (pc' := 77) [.ref (x0 + 3)] rfl (fun _ => rfl) rfl ?_
              refine dg_s (pc' := 80) [.ref ((x0 + 3) + 1)] rfl (fun _ => rfl) rfl ?_
              refine dg_s (pc' := 81) [.int x1, .ref ((x0 + 3) + 1)] rfl (fun _ => rfl) rfl ?_
              refine dg_s (pc' := 82) [.int (q1.1 ((x0 + 3) + 1) (Int32.toNatClampNeg x1))] rfl (fun _ => rfl) rfl ?_
              exact dw_r (some (.inl (some (.int (q1.1 ((x0 + 3) + 1) (Int32.toNatClampNeg x1))), q1))) rfl (fun _ => rfl) (kR _ _)
          · refine dw_g rfl ?_
            refine dg_s (pc' := 68) [.int (-1 : Int32)] rfl (fun _ => rfl) rfl ?_
            exact dw_r (some (.inl (some (.int (-1 : Int32)), q1))) rfl (fun _ => rfl) (kR _ _)
      · refine dw_g rfl ?_
        refine dg_s (pc' := 28) [.ref x0] rfl (fun _ => rfl) rfl ?_
        refine dg_s (pc' := 31) [.ref (q1.2.2.1 x0 7)] rfl (fun _ => rfl) rfl ?_
        refine dg_s (pc' := 32) [.int x2, .ref (q1.2.2.1 x0 7)] rfl (fun _ => rfl) rfl ?_
        refine dg_s (pc' := 34) [.int (10 : Int32), .int x2, .ref (q1.2.2.1 x0 7)] rfl (fun _ => rfl) rfl ?_
        refine dg_s (pc' := 35) [.int (x2 - (10 : Int32)), .ref (q1.2.2.1 x0 7)] rfl (fun _ => rfl) rfl ?_
        refine dg_s (pc' := 38) [.int (d_X3_hasEvent (q1.2.2.1 x0 7) (x2 - (10 : Int32)) q1)] rfl (fun _ => rfl) rfl ?_
        refine dw_if (fun t => Φ t) ((Int32.toInt (d_X3_hasEvent (q1.2.2.1 x0 7) (x2 - (10 : Int32)) q1)) = 0) [] 56 41 rfl (fun _ => rfl) (fun c3 => ?_) (fun c3 => ?_)
        · refine dw_g rfl ?_
          refine dg_s (pc' := 57) [.int (-1 : Int32)] rfl (fun _ => rfl) rfl ?_
          exact dw_r (some (.inl (some (.int (-1 : Int32)), q1))) rfl (fun _ => rfl) (kR _ _)
        · refine dw_g rfl ?_
          refine dg_s (pc' := 42) [.ref x0] rfl (fun _ => rfl) rfl ?_
          refine dg_s (pc' := 45) [.ref (x0 + 3)] rfl (fun _ => rfl) rfl ?_
          refine dg_s (pc' := 46) [.int x1, .ref (x0 + 3)] rfl (fun _ => rfl) rfl ?_
          refine dg_s (pc' := 47) [.int x2, .int x1, .ref (x0 + 3)] rfl (fun _ => rfl) rfl ?_
          refine dg_s (pc' := 49) [.int (10 : Int32), .int x2, .int x1, .ref (x0 + 3)] rfl (fun _ => rfl) rfl ?_
          refine dg_s (pc' := 50) [.int (x2 - (10 : Int32)), .int x1, .ref (x0 + 3)] rfl (fun _ => rfl) rfl ?_
          refine dg_s (pc' := 53) [.int (d_X7_behind (x0 + 3) x1 (x2 - (10 : Int32)) q1)] rfl (fun _ => rfl) rfl ?_
          refine dg_s (pc' := 57) [.int (d_X7_behind (x0 + 3) x1 (x2 - (10 : Int32)) q1)] rfl (fun _ => rfl) rfl ?_
          exact dw_r (some (.inl (some (.int (d_X7_behind (x0 + 3) x1 (x2 - (10 : Int32)) q1)), q1))) rfl (fun _ => rfl) (kR _ _)
    · refine dw_g rfl ?_
      refine dg_s (pc' := 20) [.int (-1 : Int32)] rfl (fun _ => rfl) rfl ?_
      exact dw_r (some (.inl (some (.int (-1 : Int32)), q1))) rfl (fun _ => rfl) (kR _ _)
noncomputable def H_X9_of : dc_H := fun As m k => match As with
  | [.ref x0, .int x1, .int x2] => (d_X9_of x0 x1 x2 m).bind (fun q => k (some (.int q.1)) q.2)
  | _ => dc_kz
theorem H_X9_of_ok {u : Nat} : dc_cok u 110 H_X9_of := fun M' hG N As m k P hz hP => by
  obtain rfl : ab_M_X9_of = M' := Option.some.inj hG
  unfold H_X9_of at hP
  split at hP
  · rename_i x0 x1 x2
    exact dc_pv.imp (k_X9_of (Φ := fun (t : Option (Int32 × dc_M)) r m' => P (t.bind (fun q => k (some (.int q.1)) q.2)) → P (k r m')) x0 x1 x2 m (fun _ _ h => h) rfl rfl rfl) (fun r m' h => h hP)
  · exact absurd hP hz
noncomputable def C_X3_freeLetter : List (Nat × dc_H) := [(31, H_X3_wireCalled)]
theorem CO_X3_freeLetter {u : Nat} : dc_CO u C_X3_freeLetter := dc_CO_cons H_X3_wireCalled_ok (dc_CO_nil)
def S_X3_freeLetter : List (Nat × List Nat) := [(2, [0, 1])]
noncomputable def d_X3_freeLetter_l2b (x0 : Nat) (x1 : Int32) (m : dc_M) : Option (Int32 ⊕ Int32) :=
  (if 26 ≤ (Int32.toInt x1) then some (Sum.inr ((26 : Int32))) else ((d_X3_wireCalled x0 x1 m).bind (fun q1 => (if 0 ≤ (Int32.toInt q1) then some (Sum.inl (x1 + (1 : Int32))) else some (Sum.inr (x1))))))
noncomputable def d_X3_freeLetter_l2s (x0 : Nat) (m : dc_M) : Int32 → Option (Int32 ⊕ Int32) := fun s => d_X3_freeLetter_l2b x0 s m
noncomputable def d_X3_freeLetter_l2 (x0 : Nat) (x1 : Int32) (m : dc_M) : Option Int32 := dc_lp (d_X3_freeLetter_l2s x0 m) x1
set_option maxHeartbeats 8000000 in
theorem k_X3_freeLetter_l2 {u : Nat} {Φ : (Option Int32) → Option Value → dc_M → Prop} (x0 : Nat) (m : dc_M) (kR : ∀ (v : Int32), Φ (some (v)) (some (.int v)) m) : ∀ (N : Nat), ∀ (x1 : Int32) (lv : ab_L), ab_lk lv 0 = some (.ref x0) → ab_lk lv 1 = some (.int x1) → dc_pv u N ab_M_X3_freeLetter 2 lv [] m (Φ (d_X3_freeLetter_l2 x0 x1 m)) := by
  intro N
  induction N with
  | zero => intros; exact dc_pv_zero
  | succ N ih =>
    intro x1 lv f0 f1
    refine dc_ok (C := C_X3_freeLetter) (S := S_X3_freeLetter) CO_X3_freeLetter 400 2 [(0, .ref x0), (1, .int x1)] lv [] m (dc_sub_cons f0 (dc_sub_cons f1 (dc_sub_nil))) ?_
    unfold d_X3_freeLetter_l2
    rw [dc_lp_eq]
    show (fun t x => dc_lf u N ab_M_X3_freeLetter (Φ (Option.bind t (dc_bk (d_X3_freeLetter_l2s x0 m)))) x) (d_X3_freeLetter_l2b x0 x1 m) _
    dsimp only
    unfold d_X3_freeLetter_l2b
    refine dg_s (pc' := 3) [.int x1] rfl (fun _ => rfl) rfl ?_
    refine dg_s (pc' := 5) [.int (26 : Int32), .int x1] rfl (fun _ => rfl) rfl ?_
    refine dw_if (fun t => Φ (Option.bind t (dc_bk (d_X3_freeLetter_l2s x0 m)))) (26 ≤ (Int32.toInt x1)) [] 24 8 rfl (fun _ => rfl) (fun c0 => ?_) (fun c0 => ?_)
    · refine dw_g rfl ?_
      refine dg_s (pc' := 26) [.int (26 : Int32)] rfl (fun _ => rfl) rfl ?_
      exact dw_r (some (.inl (some (.int (26 : Int32)), m))) rfl (fun _ => rfl) (kR _)
    · refine dw_g rfl ?_
      refine dg_s (pc' := 9) [.ref x0] rfl (fun _ => rfl) rfl ?_
      refine dg_s (pc' := 10) [.int x1, .ref x0] rfl (fun _ => rfl) rfl ?_
      refine dw_b (fun t => Φ (Option.bind t (dc_bk (d_X3_freeLetter_l2s x0 m)))) (pc' := 13) (fun q1 => [.int q1]) (fun q1 => m) rfl (fun _ => rfl) (fun q1 => ?_)
      refine dw_g rfl ?_
      refine dw_if (fun t => Φ (Option.bind t (dc_bk (d_X3_freeLetter_l2s x0 m)))) (0 ≤ (Int32.toInt q1)) [] 18 16 rfl (fun _ => rfl) (fun c1 => ?_) (fun c1 => ?_)
      · refine dw_g rfl ?_
        refine dg_L (pc' := 21) [(1, .int (x1 + (1 : Int32))), (0, .ref x0)] [] rfl (fun _ => rfl) rfl ?_
        refine dw_s (pc' := 2) [] rfl (fun _ => rfl) ?_
        exact dw_j rfl (fun lv1 hv => ih (x1 + (1 : Int32)) lv1 (hv.1 _ rfl) (hv.2.1 _ rfl))
      · refine dw_g rfl ?_
        refine dg_s (pc' := 17) [.int x1] rfl (fun _ => rfl) rfl ?_
        exact dw_r (some (.inl (some (.int x1), m))) rfl (fun _ => rfl) (kR _)
noncomputable def d_X3_freeLetter (x0 : Nat) (m : dc_M) : Option Int32 :=
  (d_X3_freeLetter_l2 x0 (0 : Int32) m)
set_option maxHeartbeats 8000000 in
theorem k_X3_freeLetter {u : Nat} {N : Nat} {Φ : (Option Int32) → Option Value → dc_M → Prop} (x0 : Nat) (m : dc_M) (kR : ∀ (v : Int32), Φ (some (v)) (some (.int v)) m)  {lv : ab_L} (f0 : ab_lk lv 0 = some (.ref x0)) : dc_pv u N ab_M_X3_freeLetter 0 lv [] m (Φ (d_X3_freeLetter x0 m)) := by
  refine dc_pv.mono (dc_ok (C := C_X3_freeLetter) (S := S_X3_freeLetter) CO_X3_freeLetter 400 0 [(0, .ref x0)] lv [] m (dc_sub_cons f0 (dc_sub_nil)) ?_) (Nat.le_succ N)
  unfold d_X3_freeLetter
  refine dg_s (pc' := 1) [.int (0 : Int32)] rfl (fun _ => rfl) rfl ?_
  refine dw_L (pc' := 2) [(1, .int (0 : Int32)), (0, .ref x0)] [] rfl (fun _ => rfl) ?_
  exact dw_j rfl (fun lv1 hv => k_X3_freeLetter_l2 (Φ := (fun t => Φ t)) x0 m (fun _a  => kR _a) N  (0 : Int32) lv1 (hv.1 _ rfl) (hv.2.1 _ rfl))
noncomputable def H_X3_freeLetter : dc_H := fun As m k => match As with
  | [.ref x0] => (d_X3_freeLetter x0 m).bind (fun q => k (some (.int q)) m)
  | _ => dc_kz
theorem H_X3_freeLetter_ok {u : Nat} : dc_cok u 44 H_X3_freeLetter := fun M' hG N As m k P hz hP => by
  obtain rfl : ab_M_X3_freeLetter = M' := Option.some.inj hG
  unfold H_X3_freeLetter at hP
  split at hP
  · rename_i x0
    exact dc_pv.imp (k_X3_freeLetter (Φ := fun (t : Option Int32) r m' => P (t.bind (fun q => k (some (.int q)) m)) → P (k r m')) x0 m (fun _  h => h) rfl) (fun r m' h => h hP)
  · exact absurd hP hz
noncomputable def C_X3_handOver : List (Nat × dc_H) := [(35, H_X3_addPlace)]
theorem CO_X3_handOver {u : Nat} : dc_CO u C_X3_handOver := dc_CO_cons H_X3_addPlace_ok (dc_CO_nil)
def S_X3_handOver : List (Nat × List Nat) := [(2, [0, 1, 2, 3]), (51, [0, 1, 2])]
noncomputable def d_X3_handOver_b51 (x0 : Nat) (x1 : Int32) (x2 : Int32) (m : dc_M) : Option dc_M :=
  ((d_X3_addPlace x0 ((1 : Int32) <<< (x1 &&& 31)) ((1 : Int32) <<< (x2 &&& 31)) (0 : Int32) (dc_wi (dc_wi m (x0 + 7) (Int32.toNatClampNeg x2) (m.1 (x0 + 7) (Int32.toNatClampNeg x1))) (x0 + 7) (Int32.toNatClampNeg x1) (0 : Int32))).bind (fun q1 => some (q1)))
set_option maxHeartbeats 8000000 in
theorem k_X3_handOver_b51 {u : Nat} {N : Nat} {Φ : (Option dc_M) → Option Value → dc_M → Prop} (x0 : Nat) (x1 : Int32) (x2 : Int32) (m : dc_M) (kR : ∀  (m : dc_M), Φ (some (m)) (none) m)  {lv : ab_L} (f0 : ab_lk lv 0 = some (.ref x0)) (f1 : ab_lk lv 1 = some (.int x1)) (f2 : ab_lk lv 2 = some (.int x2)) : dc_pv u N ab_M_X3_handOver 51 lv [] m (Φ (d_X3_handOver_b51 x0 x1 x2 m)) := by
  refine dc_pv.mono (dc_ok (C := C_X3_handOver) (S := S_X3_handOver) CO_X3_handOver 400 51 [(0, .ref x0), (1, .int x1), (2, .int x2)] lv [] m (dc_sub_cons f0 (dc_sub_cons f1 (dc_sub_cons f2 (dc_sub_nil)))) ?_) (Nat.le_succ N)
  unfold d_X3_handOver_b51
  refine dg_s (pc' := 52) [.ref x0] rfl (fun _ => rfl) rfl ?_
  refine dg_s (pc' := 55) [.ref (x0 + 7)] rfl (fun _ => rfl) rfl ?_
  refine dg_s (pc' := 56) [.int x2, .ref (x0 + 7)] rfl (fun _ => rfl) rfl ?_
  refine dg_s (pc' := 57) [.ref x0, .int x2, .ref (x0 + 7)] rfl (fun _ => rfl) rfl ?_
  refine dg_s (pc' := 60) [.ref (x0 + 7), .int x2, .ref (x0 + 7)] rfl (fun _ => rfl) rfl ?_
  refine dg_s (pc' := 61) [.int x1, .ref (x0 + 7), .int x2, .ref (x0 + 7)] rfl (fun _ => rfl) rfl ?_
  refine dg_s (pc' := 62) [.int (m.1 (x0 + 7) (Int32.toNatClampNeg x1)), .int x2, .ref (x0 + 7)] rfl (fun _ => rfl) rfl ?_
  refine dg_m (pc' := 63) (dc_wi m (x0 + 7) (Int32.toNatClampNeg x2) (m.1 (x0 + 7) (Int32.toNatClampNeg x1))) [] rfl (fun _ => rfl) rfl ?_
  refine dg_s (pc' := 64) [.ref x0] rfl (fun _ => rfl) rfl ?_
  refine dg_s (pc' := 67) [.ref (x0 + 7)] rfl (fun _ => rfl) rfl ?_
  refine dg_s (pc' := 68) [.int x1, .ref (x0 + 7)] rfl (fun _ => rfl) rfl ?_
  refine dg_s (pc' := 69) [.int (0 : Int32), .int x1, .ref (x0 + 7)] rfl (fun _ => rfl) rfl ?_
  refine dg_m (pc' := 70) (dc_wi (dc_wi m (x0 + 7) (Int32.toNatClampNeg x2) (m.1 (x0 + 7) (Int32.toNatClampNeg x1))) (x0 + 7) (Int32.toNatClampNeg x1) (0 : Int32)) [] rfl (fun _ => rfl) rfl ?_
  refine dg_s (pc' := 71) [.ref x0] rfl (fun _ => rfl) rfl ?_
  refine dg_s (pc' := 72) [.int (1 : Int32), .ref x0] rfl (fun _ => rfl) rfl ?_
  refine dg_s (pc' := 73) [.int x1, .int (1 : Int32), .ref x0] rfl (fun _ => rfl) rfl ?_
  refine dg_s (pc' := 74) [.int ((1 : Int32) <<< (x1 &&& 31)), .ref x0] rfl (fun _ => rfl) rfl ?_
  refine dg_s (pc' := 75) [.int (1 : Int32), .int ((1 : Int32) <<< (x1 &&& 31)), .ref x0] rfl (fun _ => rfl) rfl ?_
  refine dg_s (pc' := 76) [.int x2, .int (1 : Int32), .int ((1 : Int32) <<< (x1 &&& 31)), .ref x0] rfl (fun _ => rfl) rfl ?_
  refine dg_s (pc' := 77) [.int ((1 : Int32) <<< (x2 &&& 31)), .int ((1 : Int32) <<< (x1 &&& 31)), .ref x0] rfl (fun _ => rfl) rfl ?_
  refine dg_s (pc' := 78) [.int (0 : Int32), .int ((1 : Int32) <<< (x2 &&& 31)), .int ((1 : Int32) <<< (x1 &&& 31)), .ref x0] rfl (fun _ => rfl) rfl ?_
  refine dw_b (fun t => Φ t) (pc' := 81) (fun q1 => []) (fun q1 => q1) rfl (fun _ => rfl) (fun q1 => ?_)
  refine dw_g rfl ?_
  exact dw_r (some (.inl (none, q1))) rfl (fun _ => rfl) (kR _)
noncomputable def d_X3_handOver_l2b (x0 : Nat) (x1 : Int32) (x2 : Int32) (x3 : Int32) (m : dc_M) : Option ((Int32 × dc_M) ⊕ dc_M) :=
  (if (Int32.toInt (m.1 x0 2)) ≤ (Int32.toInt x3) then ((d_X3_handOver_b51 x0 x1 x2 m).map (fun z => Sum.inr (z))) else (if (Int32.toInt (((m.1 (x0 + 9) (Int32.toNatClampNeg x3)) >>> (x1 &&& 31)) &&& (1 : Int32))) = 0 then some (Sum.inl ((x3 + (1 : Int32)), m)) else some (Sum.inl ((x3 + (1 : Int32)), (dc_wi m (x0 + 9) (Int32.toNatClampNeg x3) (((m.1 (x0 + 9) (Int32.toNatClampNeg x3)) &&& (((1 : Int32) <<< (x1 &&& 31)) ^^^ (-1 : Int32))) ||| ((1 : Int32) <<< (x2 &&& 31))))))))
noncomputable def d_X3_handOver_l2s (x0 : Nat) (x1 : Int32) (x2 : Int32) : (Int32 × dc_M) → Option ((Int32 × dc_M) ⊕ dc_M) := fun s => d_X3_handOver_l2b x0 x1 x2 s.1 s.2
noncomputable def d_X3_handOver_l2 (x0 : Nat) (x1 : Int32) (x2 : Int32) (x3 : Int32) (m : dc_M) : Option dc_M := dc_lp (d_X3_handOver_l2s x0 x1 x2) (x3, m)
set_option maxHeartbeats 8000000 in
theorem k_X3_handOver_l2 {u : Nat} {Φ : (Option dc_M) → Option Value → dc_M → Prop} (x0 : Nat) (x1 : Int32) (x2 : Int32) (kR : ∀  (m : dc_M), Φ (some (m)) (none) m) : ∀ (N : Nat), ∀ (x3 : Int32) (m : dc_M) (lv : ab_L), ab_lk lv 0 = some (.ref x0) → ab_lk lv 1 = some (.int x1) → ab_lk lv 2 = some (.int x2) → ab_lk lv 3 = some (.int x3) → dc_pv u N ab_M_X3_handOver 2 lv [] m (Φ (d_X3_handOver_l2 x0 x1 x2 x3 m)) := by
  intro N
  induction N with
  | zero => intros; exact dc_pv_zero
  | succ N ih =>
    intro x3 m lv f0 f1 f2 f3
    refine dc_ok (C := C_X3_handOver) (S := S_X3_handOver) CO_X3_handOver 400 2 [(0, .ref x0), (1, .int x1), (2, .int x2), (3, .int x3)] lv [] m (dc_sub_cons f0 (dc_sub_cons f1 (dc_sub_cons f2 (dc_sub_cons f3 (dc_sub_nil))))) ?_
    unfold d_X3_handOver_l2
    rw [dc_lp_eq]
    show (fun t x => dc_lf u N ab_M_X3_handOver (Φ (Option.bind t (dc_bk (d_X3_handOver_l2s x0 x1 x2)))) x) (d_X3_handOver_l2b x0 x1 x2 x3 m) _
    dsimp only
    unfold d_X3_handOver_l2b
    refine dg_s (pc' := 3) [.int x3] rfl (fun _ => rfl) rfl ?_
    refine dg_s (pc' := 4) [.ref x0, .int x3] rfl (fun _ => rfl) rfl ?_
    refine dg_s (pc' := 7) [.int (m.1 x0 2), .int x3] rfl (fun _ => rfl) rfl ?_
    refine dw_if (fun t => Φ (Option.bind t (dc_bk (d_X3_handOver_l2s x0 x1 x2)))) ((Int32.toInt (m.1 x0 2)) ≤ (Int32.toInt x3)) [] 51 10 rfl (fun _ => rfl) (fun c0 => ?_) (fun c0 => ?_)
    · exact dw_j rfl (fun lv1 hv => k_X3_handOver_b51 (Φ := (fun t => Φ (Option.bind (t.map (fun z => Sum.inr (z))) (dc_bk (d_X3_handOver_l2s x0 x1 x2))))) x0 x1 x2 m (fun _b => kR _b)  (hv.1 _ rfl) (hv.2.1 _ rfl) (hv.2.2.1 _ rfl))
    · refine dw_g rfl ?_
      refine dg_s (pc' := 11) [.ref x0] rfl (fun _ => rfl) rfl ?_
      refine dg_s (pc' := 14) [.ref (x0 + 9)] rfl (fun _ => rfl) rfl ?_
      refine dg_s (pc' := 15) [.int x3, .ref (x0 + 9)] rfl (fun _ => rfl) rfl ?_
      refine dg_s (pc' := 16) [.int (m.1 (x0 + 9) (Int32.toNatClampNeg x3))] rfl (fun _ => rfl) rfl ?_
      refine dg_s (pc' := 17) [.int x1, .int (m.1 (x0 + 9) (Int32.toNatClampNeg x3))] rfl (fun _ => rfl) rfl ?_
      refine dg_s (pc' := 18) [.int ((m.1 (x0 + 9) (Int32.toNatClampNeg x3)) >>> (x1 &&& 31))] rfl (fun _ => rfl) rfl ?_
      refine dg_s (pc' := 19) [.int (1 : Int32), .int ((m.1 (x0 + 9) (Int32.toNatClampNeg x3)) >>> (x1 &&& 31))] rfl (fun _ => rfl) rfl ?_
      refine dg_s (pc' := 20) [.int (((m.1 (x0 + 9) (Int32.toNatClampNeg x3)) >>> (x1 &&& 31)) &&& (1 : Int32))] rfl (fun _ => rfl) rfl ?_
      refine dw_if (fun t => Φ (Option.bind t (dc_bk (d_X3_handOver_l2s x0 x1 x2)))) ((Int32.toInt (((m.1 (x0 + 9) (Int32.toNatClampNeg x3)) >>> (x1 &&& 31)) &&& (1 : Int32))) = 0) [] 45 23 rfl (fun _ => rfl) (fun c1 => ?_) (fun c1 => ?_)
      · refine dw_g rfl ?_
        refine dg_L (pc' := 48) [(3, .int (x3 + (1 : Int32))), (0, .ref x0), (1, .int x1), (2, .int x2)] [] rfl (fun _ => rfl) rfl ?_
        refine dw_s (pc' := 2) [] rfl (fun _ => rfl) ?_
        exact dw_j rfl (fun lv1 hv => ih (x3 + (1 : Int32)) m lv1 (hv.1 _ rfl) (hv.2.1 _ rfl) (hv.2.2.1 _ rfl) (hv.2.2.2.1 _ rfl))
      · refine dw_g rfl ?_
        refine dg_s (pc' := 24) [.ref x0] rfl (fun _ => rfl) rfl ?_
        refine dg_s (pc' := 27) [.ref (x0 + 9)] rfl (fun _ => rfl) rfl ?_
        refine dg_s (pc' := 28) [.int x3, .ref (x0 + 9)] rfl (fun _ => rfl) rfl ?_
        refine dg_s (pc' := 29) [.ref x0, .int x3, .ref (x0 + 9)] rfl (fun _ => rfl) rfl ?_
        refine dg_s (pc' := 32) [.ref (x0 + 9), .int x3, .ref (x0 + 9)] rfl (fun _ => rfl) rfl ?_
        refine dg_s (pc' := 33) [.int x3, .ref (x0 + 9), .int x3, .ref (x0 + 9)] rfl (fun _ => rfl) rfl ?_
        refine dg_s (pc' := 34) [.int (m.1 (x0 + 9) (Int32.toNatClampNeg x3)), .int x3, .ref (x0 + 9)] rfl (fun _ => rfl) rfl ?_
        refine dg_s (pc' := 35) [.int (1 : Int32), .int (m.1 (x0 + 9) (Int32.toNatClampNeg x3)), .int x3, .ref (x0 + 9)] rfl (fun _ => rfl) rfl ?_
        refine dg_s (pc' := 36) [.int x1, .int (1 : Int32), .int (m.1 (x0 + 9) (Int32.toNatClampNeg x3)), .int x3, .ref (x0 + 9)] rfl (fun _ => rfl) rfl ?_
        refine dg_s (pc' := 37) [.int ((1 : Int32) <<< (x1 &&& 31)), .int (m.1 (x0 + 9) (Int32.toNatClampNeg x3)), .int x3, .ref (x0 + 9)] rfl (fun _ => rfl) rfl ?_
        refine dg_s (pc' := 38) [.int (-1 : Int32), .int ((1 : Int32) <<< (x1 &&& 31)), .int (m.1 (x0 + 9) (Int32.toNatClampNeg x3)), .int x3, .ref (x0 + 9)] rfl (fun _ => rfl) rfl ?_
        refine dg_s (pc' := 39) [.int (((1 : Int32) <<< (x1 &&& 31)) ^^^ (-1 : Int32)), .int (m.1 (x0 + 9) (Int32.toNatClampNeg x3)), .int x3, .ref (x0 + 9)] rfl (fun _ => rfl) rfl ?_
        refine dg_s (pc' := 40) [.int ((m.1 (x0 + 9) (Int32.toNatClampNeg x3)) &&& (((1 : Int32) <<< (x1 &&& 31)) ^^^ (-1 : Int32))), .int x3, .ref (x0 + 9)] rfl (fun _ => rfl) rfl ?_
        refine dg_s (pc' := 41) [.int (1 : Int32), .int ((m.1 (x0 + 9) (Int32.toNatClampNeg x3)) &&& (((1 : Int32) <<< (x1 &&& 31)) ^^^ (-1 : Int32))), .int x3, .ref (x0 + 9)] rfl (fun _ => rfl) rfl ?_
        refine dg_s (pc' := 42) [.int x2, .int (1 : Int32), .int ((m.1 (x0 + 9) (Int32.toNatClampNeg x3)) &&& (((1 : Int32) <<< (x1 &&& 31)) ^^^ (-1 : Int32))), .int x3, .ref (x0 + 9)] rfl (fun _ => rfl) rfl ?_
        refine dg_s (pc' := 43) [.int ((1 : Int32) <<< (x2 &&& 31)), .int ((m.1 (x0 + 9) (Int32.toNatClampNeg x3)) &&& (((1 : Int32) <<< (x1 &&& 31)) ^^^ (-1 : Int32))), .int x3, .ref (x0 + 9)] rfl (fun _ => rfl) rfl ?_
        refine dg_s (pc' := 44) [.int (((m.1 (x0 + 9) (Int32.toNatClampNeg x3)) &&& (((1 : Int32) <<< (x1 &&& 31)) ^^^ (-1 : Int32))) ||| ((1 : Int32) <<< (x2 &&& 31))), .int x3, .ref (x0 + 9)] rfl (fun _ => rfl) rfl ?_
        refine dg_m (pc' := 45) (dc_wi m (x0 + 9) (Int32.toNatClampNeg x3) (((m.1 (x0 + 9) (Int32.toNatClampNeg x3)) &&& (((1 : Int32) <<< (x1 &&& 31)) ^^^ (-1 : Int32))) ||| ((1 : Int32) <<< (x2 &&& 31)))) [] rfl (fun _ => rfl) rfl ?_
        refine dg_L (pc' := 48) [(3, .int (x3 + (1 : Int32))), (0, .ref x0), (1, .int x1), (2, .int x2)] [] rfl (fun _ => rfl) rfl ?_
        refine dw_s (pc' := 2) [] rfl (fun _ => rfl) ?_
        exact dw_j rfl (fun lv1 hv => ih (x3 + (1 : Int32)) (dc_wi m (x0 + 9) (Int32.toNatClampNeg x3) (((m.1 (x0 + 9) (Int32.toNatClampNeg x3)) &&& (((1 : Int32) <<< (x1 &&& 31)) ^^^ (-1 : Int32))) ||| ((1 : Int32) <<< (x2 &&& 31)))) lv1 (hv.1 _ rfl) (hv.2.1 _ rfl) (hv.2.2.1 _ rfl) (hv.2.2.2.1 _ rfl))
noncomputable def d_X3_handOver (x0 : Nat) (x1 : Int32) (x2 : Int32) (m : dc_M) : Option dc_M :=
  (d_X3_handOver_l2 x0 x1 x2 (0 : Int32) m)
set_option maxHeartbeats 8000000 in
theorem k_X3_handOver {u : Nat} {N : Nat} {Φ : (Option dc_M) → Option Value → dc_M → Prop} (x0 : Nat) (x1 : Int32) (x2 : Int32) (m : dc_M) (kR : ∀  (m : dc_M), Φ (some (m)) (none) m)  {lv : ab_L} (f0 : ab_lk lv 0 = some (.ref x0)) (f1 : ab_lk lv 1 = some (.int x1)) (f2 : ab_lk lv 2 = some (.int x2)) : dc_pv u N ab_M_X3_handOver 0 lv [] m (Φ (d_X3_handOver x0 x1 x2 m)) := by
  refine dc_pv.mono (dc_ok (C := C_X3_handOver) (S := S_X3_handOver) CO_X3_handOver 400 0 [(0, .ref x0), (1, .int x1), (2, .int x2)] lv [] m (dc_sub_cons f0 (dc_sub_cons f1 (dc_sub_cons f2 (dc_sub_nil)))) ?_) (Nat.le_succ N)
  unfold d_X3_handOver
  refine dg_s (pc' := 1) [.int (0 : Int32)] rfl (fun _ => rfl) rfl ?_
  refine dw_L (pc' := 2) [(3, .int (0 : Int32)), (0, .ref x0), (1, .int x1), (2, .int x2)] [] rfl (fun _ => rfl) ?_
  exact dw_j rfl (fun lv1 hv => k_X3_handOver_l2 (Φ := (fun t => Φ t)) x0 x1 x2 (fun _b => kR _b) N  (0 : Int32) m lv1 (hv.1 _ rfl) (hv.2.1 _ rfl) (hv.2.2.1 _ rfl) (hv.2.2.2.1 _ rfl))
noncomputable def H_X3_handOver : dc_H := fun As m k => match As with
  | [.ref x0, .int x1, .int x2] => (d_X3_handOver x0 x1 x2 m).bind (fun q => k (none) q)
  | _ => dc_kz
theorem H_X3_handOver_ok {u : Nat} : dc_cok u 43 H_X3_handOver := fun M' hG N As m k P hz hP => by
  obtain rfl : ab_M_X3_handOver = M' := Option.some.inj hG
  unfold H_X3_handOver at hP
  split at hP
  · rename_i x0 x1 x2
    exact dc_pv.imp (k_X3_handOver (Φ := fun (t : Option dc_M) r m' => P (t.bind (fun q => k (none) q)) → P (k r m')) x0 x1 x2 m (fun _ h => h) rfl rfl rfl) (fun r m' h => h hP)
  · exact absurd hP hz
noncomputable def C_X3_addWireBehind : List (Nat × dc_H) := [(34, H_X3_addEvent), (33, H_X3_addWire), (44, H_X3_freeLetter), (43, H_X3_handOver)]
theorem CO_X3_addWireBehind {u : Nat} : dc_CO u C_X3_addWireBehind := dc_CO_cons H_X3_addEvent_ok (dc_CO_cons H_X3_addWire_ok (dc_CO_cons H_X3_freeLetter_ok (dc_CO_cons H_X3_handOver_ok (dc_CO_nil))))
def S_X3_addWireBehind : List (Nat × List Nat) := []
noncomputable def d_X3_addWireBehind (x0 : Nat) (x1 : Int32) (x2 : Int32) (m : dc_M) : Option dc_M :=
  ((d_X3_freeLetter x0 m).bind (fun q1 => (dc_let (d_X3_addWire x0 q1 (2 : Int32) m) (fun q2 => (dc_let (d_X3_addEvent x0 q2.1 (1 : Int32) (0 : Int32) q2.2) (fun q3 => (dc_let (d_X3_addEvent x0 q2.1 (0 : Int32) (0 : Int32) q3.2) (fun q4 => (if (Int32.toInt q3.1) < 0 then some (q4.2) else (if (Int32.toInt q4.1) < 0 then some (q4.2) else ((d_X3_handOver x0 x1 q3.1 q4.2).bind (fun q5 => ((d_X3_handOver x0 x2 q4.1 q5).bind (fun q6 => some (q6)))))))))))))))
set_option maxHeartbeats 8000000 in
theorem k_X3_addWireBehind {u : Nat} {N : Nat} {Φ : (Option dc_M) → Option Value → dc_M → Prop} (x0 : Nat) (x1 : Int32) (x2 : Int32) (m : dc_M) (kR : ∀  (m : dc_M), Φ (some (m)) (none) m)  {lv : ab_L} (f0 : ab_lk lv 0 = some (.ref x0)) (f1 : ab_lk lv 1 = some (.int x1)) (f2 : ab_lk lv 2 = some (.int x2)) : dc_pv u N ab_M_X3_addWireBehind 0 lv [] m (Φ (d_X3_addWireBehind x0 x1 x2 m)) := by
  refine dc_pv.mono (dc_ok (C := C_X3_addWireBehind) (S := S_X3_addWireBehind) CO_X3_addWireBehind 400 0 [(0, .ref x0), (1, .int x1), (2, .int x2)] lv [] m (dc_sub_cons f0 (dc_sub_cons f1 (dc_sub_cons f2 (dc_sub_nil)))) ?_) (Nat.le_succ N)
  unfold d_X3_addWireBehind
  refine dg_s (pc' := 1) [.ref x0] rfl (fun _ => rfl) rfl ?_
  refine dg_s (pc' := 2) [.ref x0, .ref x0] rfl (fun _ => rfl) rfl ?_
  refine dw_b (fun t => Φ t) (pc' := 5) (fun q1 => [.int q1, .ref x0]) (fun q1 => m) rfl (fun _ => rfl) (fun q1 => ?_)
  refine dw_g rfl ?_
  refine dg_s (pc' := 6) [.int (2 : Int32), .int q1, .ref x0] rfl (fun _ => rfl) rfl ?_
  refine dw_l (fun t => Φ t) (pc' := 9) (fun q2 => [.int q2.1]) (fun q2 => q2.2) rfl (fun _ => rfl) (fun q2 => ?_)
  refine dw_g rfl ?_
  refine dg_L (pc' := 10) [(3, .int q2.1), (0, .ref x0), (1, .int x1), (2, .int x2)] [] rfl (fun _ => rfl) rfl ?_
  refine dg_s (pc' := 11) [.ref x0] rfl (fun _ => rfl) rfl ?_
  refine dg_s (pc' := 12) [.int q2.1, .ref x0] rfl (fun _ => rfl) rfl ?_
  refine dg_s (pc' := 13) [.int (1 : Int32), .int q2.1, .ref x0] rfl (fun _ => rfl) rfl ?_
  refine dg_s (pc' := 14) [.int (0 : Int32), .int (1 : Int32), .int q2.1, .ref x0] rfl (fun _ => rfl) rfl ?_
  refine dw_l (fun t => Φ t) (pc' := 17) (fun q3 => [.int q3.1]) (fun q3 => q3.2) rfl (fun _ => rfl) (fun q3 => ?_)
  refine dw_g rfl ?_
  refine dg_L (pc' := 19) [(4, .int q3.1), (3, .int q2.1), (0, .ref x0), (1, .int x1), (2, .int x2)] [] rfl (fun _ => rfl) rfl ?_
  refine dg_s (pc' := 20) [.ref x0] rfl (fun _ => rfl) rfl ?_
  refine dg_s (pc' := 21) [.int q2.1, .ref x0] rfl (fun _ => rfl) rfl ?_
  refine dg_s (pc' := 22) [.int (0 : Int32), .int q2.1, .ref x0] rfl (fun _ => rfl) rfl ?_
  refine dg_s (pc' := 23) [.int (0 : Int32), .int (0 : Int32), .int q2.1, .ref x0] rfl (fun _ => rfl) rfl ?_
  refine dw_l (fun t => Φ t) (pc' := 26) (fun q4 => [.int q4.1]) (fun q4 => q4.2) rfl (fun _ => rfl) (fun q4 => ?_)
  refine dw_g rfl ?_
  refine dg_L (pc' := 28) [(5, .int q4.1), (4, .int q3.1), (3, .int q2.1), (0, .ref x0), (1, .int x1), (2, .int x2)] [] rfl (fun _ => rfl) rfl ?_
  refine dg_s (pc' := 30) [.int q3.1] rfl (fun _ => rfl) rfl ?_
  refine dw_if (fun t => Φ t) ((Int32.toInt q3.1) < 0) [] 52 33 rfl (fun _ => rfl) (fun c0 => ?_) (fun c0 => ?_)
  · refine dw_g rfl ?_
    exact dw_r (some (.inl (none, q4.2))) rfl (fun _ => rfl) (kR _)
  · refine dw_g rfl ?_
    refine dg_s (pc' := 35) [.int q4.1] rfl (fun _ => rfl) rfl ?_
    refine dw_if (fun t => Φ t) ((Int32.toInt q4.1) < 0) [] 52 38 rfl (fun _ => rfl) (fun c1 => ?_) (fun c1 => ?_)
    · refine dw_g rfl ?_
      exact dw_r (some (.inl (none, q4.2))) rfl (fun _ => rfl) (kR _)
    · refine dw_g rfl ?_
      refine dg_s (pc' := 39) [.ref x0] rfl (fun _ => rfl) rfl ?_
      refine dg_s (pc' := 40) [.int x1, .ref x0] rfl (fun _ => rfl) rfl ?_
      refine dg_s (pc' := 42) [.int q3.1, .int x1, .ref x0] rfl (fun _ => rfl) rfl ?_
      refine dw_b (fun t => Φ t) (pc' := 45) (fun q5 => []) (fun q5 => q5) rfl (fun _ => rfl) (fun q5 => ?_)
      refine dw_g rfl ?_
      refine dg_s (pc' := 46) [.ref x0] rfl (fun _ => rfl) rfl ?_
      refine dg_s (pc' := 47) [.int x2, .ref x0] rfl (fun _ => rfl) rfl ?_
      refine dg_s (pc' := 49) [.int q4.1, .int x2, .ref x0] rfl (fun _ => rfl) rfl ?_
      refine dw_b (fun t => Φ t) (pc' := 52) (fun q6 => []) (fun q6 => q6) rfl (fun _ => rfl) (fun q6 => ?_)
      refine dw_g rfl ?_
      exact dw_r (some (.inl (none, q6))) rfl (fun _ => rfl) (kR _)
noncomputable def H_X3_addWireBehind : dc_H := fun As m k => match As with
  | [.ref x0, .int x1, .int x2] => (d_X3_addWireBehind x0 x1 x2 m).bind (fun q => k (none) q)
  | _ => dc_kz
theorem H_X3_addWireBehind_ok {u : Nat} : dc_cok u 42 H_X3_addWireBehind := fun M' hG N As m k P hz hP => by
  obtain rfl : ab_M_X3_addWireBehind = M' := Option.some.inj hG
  unfold H_X3_addWireBehind at hP
  split at hP
  · rename_i x0 x1 x2
    exact dc_pv.imp (k_X3_addWireBehind (Φ := fun (t : Option dc_M) r m' => P (t.bind (fun q => k (none) q)) → P (k r m')) x0 x1 x2 m (fun _ h => h) rfl rfl rfl) (fun r m' h => h hP)
  · exact absurd hP hz
