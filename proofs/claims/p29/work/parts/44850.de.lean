/-! ===== methods as functions (written by a program) ===== -/
noncomputable def C_X10_back : List (Nat × dc_H) := [(146, H_X10_in), (185, H_X10_layBacks), (175, H_X10_layRight)]
theorem CO_X10_back {u : Nat} : dc_CO u C_X10_back := dc_CO_cons H_X10_in_ok (dc_CO_cons H_X10_layBacks_ok (dc_CO_cons H_X10_layRight_ok (dc_CO_nil)))
def S_X10_back : List (Nat × List Nat) := []
noncomputable def d_X10_back (x0 : Nat) (x1 : Int32) (m : dc_M) : Option (Int32 × dc_M) :=
  (if ¬ (Int32.toInt (d_X10_in (Int32.toInt64 x1) (0 : Int64) (3 : Int64) m)) = 0 then ((d_X10_layRight x0 m).bind (fun q1 => (if ¬ (Int32.toInt q1.1) = 0 then ((d_X10_layBacks x0 q1.2).bind (fun q2 => (if ¬ (Int32.toInt x1) = 0 then (if ¬ (Int32.toInt x1) = 1 then (if ¬ (Int32.toInt x1) = 2 then some (((q2.1 x0 46), q2)) else some (((q2.1 x0 45), q2))) else some (((q2.1 x0 44), q2))) else some (((q2.1 x0 43), q2))))) else some (((-2 : Int32), q1.2))))) else some (((-1 : Int32), m)))
set_option maxHeartbeats 8000000 in
theorem k_X10_back {u : Nat} {N : Nat} {Φ : (Option (Int32 × dc_M)) → Option Value → dc_M → Prop} (x0 : Nat) (x1 : Int32) (m : dc_M) (kR : ∀ (v : Int32) (m : dc_M), Φ (some ((v, m))) (some (.int v)) m)  {lv : ab_L} (f0 : ab_lk lv 0 = some (.ref x0)) (f1 : ab_lk lv 1 = some (.int x1)) : dc_pv u N ab_M_X10_back 0 lv [] m (Φ (d_X10_back x0 x1 m)) := by
  refine dc_pv.mono (dc_ok (C := C_X10_back) (S := S_X10_back) CO_X10_back 400 0 [(0, .ref x0), (1, .int x1)] lv [] m (dc_sub_cons f0 (dc_sub_cons f1 (dc_sub_nil))) ?_) (Nat.le_succ N)
  unfold d_X10_back
  refine dg_s (pc' := 1) [.int x1] rfl (fun _ => rfl) rfl ?_
  refine dg_s (pc' := 2) [.long (Int32.toInt64 x1)] rfl (fun _ => rfl) rfl ?_
  refine dg_s (pc' := 3) [.long (0 : Int64), .long (Int32.toInt64 x1)] rfl (fun _ => rfl) rfl ?_
  refine dg_s (pc' := 6) [.long (3 : Int64), .long (0 : Int64), .long (Int32.toInt64 x1)] rfl (fun _ => rfl) rfl ?_
  refine dg_s (pc' := 9) [.int (d_X10_in (Int32.toInt64 x1) (0 : Int64) (3 : Int64) m)] rfl (fun _ => rfl) rfl ?_
  refine dw_if (fun t => Φ t) (¬ (Int32.toInt (d_X10_in (Int32.toInt64 x1) (0 : Int64) (3 : Int64) m)) = 0) [] 14 12 rfl (fun _ => rfl) (fun c0 => ?_) (fun c0 => ?_)
  · refine dw_g rfl ?_
    refine dg_s (pc' := 15) [.ref x0] rfl (fun _ => rfl) rfl ?_
    refine dw_b (fun t => Φ t) (pc' := 18) (fun q1 => [.int q1.1]) (fun q1 => q1.2) rfl (fun _ => rfl) (fun q1 => ?_)
    refine dw_g rfl ?_
    refine dw_if (fun t => Φ t) (¬ (Int32.toInt q1.1) = 0) [] 24 21 rfl (fun _ => rfl) (fun c1 => ?_) (fun c1 => ?_)
    · refine dw_g rfl ?_
      refine dg_s (pc' := 25) [.ref x0] rfl (fun _ => rfl) rfl ?_
      refine dw_b (fun t => Φ t) (pc' := 28) (fun q2 => []) (fun q2 => q2) rfl (fun _ => rfl) (fun q2 => ?_)
      refine dw_g rfl ?_
      refine dg_s (pc' := 29) [.int x1] rfl (fun _ => rfl) rfl ?_
      refine dw_if (fun t => Φ t) (¬ (Int32.toInt x1) = 0) [] 39 32 rfl (fun _ => rfl) (fun c2 => ?_) (fun c2 => ?_)
      · refine dw_g rfl ?_
        refine dg_s (pc' := 40) [.int x1] rfl (fun _ => rfl) rfl ?_
        refine dg_s (pc' := 41) [.int (1 : Int32), .int x1] rfl (fun _ => rfl) rfl ?_
        refine dw_if (fun t => Φ t) (¬ (Int32.toInt x1) = 1) [] 51 44 rfl (fun _ => rfl) (fun c3 => ?_) (fun c3 => ?_)
        · refine dw_g rfl ?_
          refine dg_s (pc' := 52) [.int x1] rfl (fun _ => rfl) rfl ?_
          refine dg_s (pc' := 53) [.int (2 : Int32), .int x1] rfl (fun _ => rfl) rfl ?_
          refine dw_if (fun t => Φ t) (¬ (Int32.toInt x1) = 2) [] 63 56 rfl (fun _ => rfl) (fun c4 => ?_) (fun c4 => ?_)
          · refine dw_g rfl ?_
            refine dg_s (pc' := 64) [.ref x0] rfl (fun _ => rfl) rfl ?_
            refine dg_s (pc' := 67) [.int (q2.1 x0 46)] rfl (fun _ => rfl) rfl ?_
            exact dw_r (some (.inl (some (.int (q2.1 x0 46)), q2))) rfl (fun _ => rfl) (kR _ _)
          · refine dw_g rfl ?_
            refine dg_s (pc' := 57) [.ref x0] rfl (fun _ => rfl) rfl ?_
            refine dg_s (pc' := 60) [.int (q2.1 x0 45)] rfl (fun _ => rfl) rfl ?_
            refine dg_s (pc' := 67) [.int (q2.1 x0 45)] rfl (fun _ => rfl) rfl ?_
            exact dw_r (some (.inl (some (.int (q2.1 x0 45)), q2))) rfl (fun _ => rfl) (kR _ _)
        · refine dw_g rfl ?_
          refine dg_s (pc' := 45) [.ref x0] rfl (fun _ => rfl) rfl ?_
          refine dg_s (pc' := 48) [.int (q2.1 x0 44)] rfl (fun _ => rfl) rfl ?_
          refine dg_s (pc' := 67) [.int (q2.1 x0 44)] rfl (fun _ => rfl) rfl ?_
          exact dw_r (some (.inl (some (.int (q2.1 x0 44)), q2))) rfl (fun _ => rfl) (kR _ _)
      · refine dw_g rfl ?_
        refine dg_s (pc' := 33) [.ref x0] rfl (fun _ => rfl) rfl ?_
        refine dg_s (pc' := 36) [.int (q2.1 x0 43)] rfl (fun _ => rfl) rfl ?_
        refine dg_s (pc' := 67) [.int (q2.1 x0 43)] rfl (fun _ => rfl) rfl ?_
        exact dw_r (some (.inl (some (.int (q2.1 x0 43)), q2))) rfl (fun _ => rfl) (kR _ _)
    · refine dw_g rfl ?_
      refine dg_s (pc' := 23) [.int (-2 : Int32)] rfl (fun _ => rfl) rfl ?_
      exact dw_r (some (.inl (some (.int (-2 : Int32)), q1.2))) rfl (fun _ => rfl) (kR _ _)
  · refine dw_g rfl ?_
    refine dg_s (pc' := 13) [.int (-1 : Int32)] rfl (fun _ => rfl) rfl ?_
    exact dw_r (some (.inl (some (.int (-1 : Int32)), m))) rfl (fun _ => rfl) (kR _ _)
noncomputable def H_X10_back : dc_H := fun As m k => match As with
  | [.ref x0, .int x1] => (d_X10_back x0 x1 m).bind (fun q => k (some (.int q.1)) q.2)
  | _ => dc_kz
theorem H_X10_back_ok {u : Nat} : dc_cok u 186 H_X10_back := fun M' hG N As m k P hz hP => by
  obtain rfl : ab_M_X10_back = M' := Option.some.inj hG
  unfold H_X10_back at hP
  split at hP
  · rename_i x0 x1
    exact dc_pv.imp (k_X10_back (Φ := fun (t : Option (Int32 × dc_M)) r m' => P (t.bind (fun q => k (some (.int q.1)) q.2)) → P (k r m')) x0 x1 m (fun _ _ h => h) rfl rfl) (fun r m' h => h hP)
  · exact absurd hP hz
noncomputable def C_X10_stuck : List (Nat × dc_H) := [(146, H_X10_in), (173, H_X10_layStates), (178, H_X10_readyIn)]
theorem CO_X10_stuck {u : Nat} : dc_CO u C_X10_stuck := dc_CO_cons H_X10_in_ok (dc_CO_cons H_X10_layStates_ok (dc_CO_cons H_X10_readyIn_ok (dc_CO_nil)))
def S_X10_stuck : List (Nat × List Nat) := [(32, [0, 1, 2, 3, 4]), (56, [0, 1, 3, 4]), (93, [0, 1, 2, 3, 4]), (104, [0, 1, 2, 3, 4, 5]), (116, [0, 1, 2, 3, 4, 5, 6]), (202, [0, 1, 2, 3, 5, 6, 7]), (240, [0, 1, 2, 3, 5, 6, 7]), (268, [1, 2, 5, 6])]
noncomputable def d_X10_stuck_b268 (x1 : Int32) (x2 : Int32) (x5 : Int32) (x6 : Int32) (m : dc_M) : Option (Int32 × dc_M) :=
  (if ¬ (Int32.toInt x1) = 0 then (if ¬ (Int32.toInt x1) = 1 then some ((x6, m)) else some ((x5, m))) else some ((x2, m)))
set_option maxHeartbeats 8000000 in
theorem k_X10_stuck_b268 {u : Nat} {N : Nat} {Φ : (Option (Int32 × dc_M)) → Option Value → dc_M → Prop} (x1 : Int32) (x2 : Int32) (x5 : Int32) (x6 : Int32) (m : dc_M) (kR : ∀ (v : Int32) (m : dc_M), Φ (some ((v, m))) (some (.int v)) m)  {lv : ab_L} (f1 : ab_lk lv 1 = some (.int x1)) (f2 : ab_lk lv 2 = some (.int x2)) (f5 : ab_lk lv 5 = some (.int x5)) (f6 : ab_lk lv 6 = some (.int x6)) : dc_pv u N ab_M_X10_stuck 268 lv [] m (Φ (d_X10_stuck_b268 x1 x2 x5 x6 m)) := by
  refine dc_pv.mono (dc_ok (C := C_X10_stuck) (S := S_X10_stuck) CO_X10_stuck 400 268 [(1, .int x1), (2, .int x2), (5, .int x5), (6, .int x6)] lv [] m (dc_sub_cons f1 (dc_sub_cons f2 (dc_sub_cons f5 (dc_sub_cons f6 (dc_sub_nil))))) ?_) (Nat.le_succ N)
  unfold d_X10_stuck_b268
  refine dg_s (pc' := 269) [.int x1] rfl (fun _ => rfl) rfl ?_
  refine dw_if (fun t => Φ t) (¬ (Int32.toInt x1) = 0) [] 276 272 rfl (fun _ => rfl) (fun c0 => ?_) (fun c0 => ?_)
  · refine dw_g rfl ?_
    refine dg_s (pc' := 277) [.int x1] rfl (fun _ => rfl) rfl ?_
    refine dg_s (pc' := 278) [.int (1 : Int32), .int x1] rfl (fun _ => rfl) rfl ?_
    refine dw_if (fun t => Φ t) (¬ (Int32.toInt x1) = 1) [] 286 281 rfl (fun _ => rfl) (fun c1 => ?_) (fun c1 => ?_)
    · refine dw_g rfl ?_
      refine dg_s (pc' := 288) [.int x6] rfl (fun _ => rfl) rfl ?_
      exact dw_r (some (.inl (some (.int x6), m))) rfl (fun _ => rfl) (kR _ _)
    · refine dw_g rfl ?_
      refine dg_s (pc' := 283) [.int x5] rfl (fun _ => rfl) rfl ?_
      refine dg_s (pc' := 288) [.int x5] rfl (fun _ => rfl) rfl ?_
      exact dw_r (some (.inl (some (.int x5), m))) rfl (fun _ => rfl) (kR _ _)
  · refine dw_g rfl ?_
    refine dg_s (pc' := 273) [.int x2] rfl (fun _ => rfl) rfl ?_
    refine dg_s (pc' := 288) [.int x2] rfl (fun _ => rfl) rfl ?_
    exact dw_r (some (.inl (some (.int x2), m))) rfl (fun _ => rfl) (kR _ _)
noncomputable def d_X10_stuck_l240b (x0 : Nat) (x1 : Int32) (x2 : Int32) (x3 : Int32) (x5 : Int32) (x6 : Int32) (x7 : Int32) (m : dc_M) : Option ((Int32 × Int32) ⊕ (Int32 × dc_M)) :=
  (if (Int32.toInt (m.1 x0 3)) ≤ (Int32.toInt x7) then ((d_X10_stuck_b268 x1 x2 x5 x6 m).map (fun z => Sum.inr (z))) else some (Sum.inl ((x6 + ((1 : Int32) - ((x3 >>> (x7 &&& 31)) &&& (1 : Int32)))), (x7 + (1 : Int32)))))
noncomputable def d_X10_stuck_l240s (x0 : Nat) (x1 : Int32) (x2 : Int32) (x3 : Int32) (x5 : Int32) (m : dc_M) : (Int32 × Int32) → Option ((Int32 × Int32) ⊕ (Int32 × dc_M)) := fun s => d_X10_stuck_l240b x0 x1 x2 x3 x5 s.1 s.2 m
noncomputable def d_X10_stuck_l240 (x0 : Nat) (x1 : Int32) (x2 : Int32) (x3 : Int32) (x5 : Int32) (x6 : Int32) (x7 : Int32) (m : dc_M) : Option (Int32 × dc_M) := dc_lp (d_X10_stuck_l240s x0 x1 x2 x3 x5 m) (x6, x7)
set_option maxHeartbeats 8000000 in
theorem k_X10_stuck_l240 {u : Nat} {Φ : (Option (Int32 × dc_M)) → Option Value → dc_M → Prop} (x0 : Nat) (x1 : Int32) (x2 : Int32) (x3 : Int32) (x5 : Int32) (m : dc_M) (kR : ∀ (v : Int32) (m : dc_M), Φ (some ((v, m))) (some (.int v)) m) : ∀ (N : Nat), ∀ (x6 : Int32) (x7 : Int32) (lv : ab_L), ab_lk lv 0 = some (.ref x0) → ab_lk lv 1 = some (.int x1) → ab_lk lv 2 = some (.int x2) → ab_lk lv 3 = some (.int x3) → ab_lk lv 5 = some (.int x5) → ab_lk lv 6 = some (.int x6) → ab_lk lv 7 = some (.int x7) → dc_pv u N ab_M_X10_stuck 240 lv [] m (Φ (d_X10_stuck_l240 x0 x1 x2 x3 x5 x6 x7 m)) := by
  intro N
  induction N with
  | zero => intros; exact dc_pv_zero
  | succ N ih =>
    intro x6 x7 lv f0 f1 f2 f3 f5 f6 f7
    refine dc_ok (C := C_X10_stuck) (S := S_X10_stuck) CO_X10_stuck 400 240 [(0, .ref x0), (1, .int x1), (2, .int x2), (3, .int x3), (5, .int x5), (6, .int x6), (7, .int x7)] lv [] m (dc_sub_cons f0 (dc_sub_cons f1 (dc_sub_cons f2 (dc_sub_cons f3 (dc_sub_cons f5 (dc_sub_cons f6 (dc_sub_cons f7 (dc_sub_nil)))))))) ?_
    unfold d_X10_stuck_l240
    rw [dc_lp_eq]
    show (fun t x => dc_lf u N ab_M_X10_stuck (Φ (Option.bind t (dc_bk (d_X10_stuck_l240s x0 x1 x2 x3 x5 m)))) x) (d_X10_stuck_l240b x0 x1 x2 x3 x5 x6 x7 m) _
    dsimp only
    unfold d_X10_stuck_l240b
    refine dg_s (pc' := 242) [.int x7] rfl (fun _ => rfl) rfl ?_
    refine dg_s (pc' := 243) [.ref x0, .int x7] rfl (fun _ => rfl) rfl ?_
    refine dg_s (pc' := 246) [.int (m.1 x0 3), .int x7] rfl (fun _ => rfl) rfl ?_
    refine dw_if (fun t => Φ (Option.bind t (dc_bk (d_X10_stuck_l240s x0 x1 x2 x3 x5 m)))) ((Int32.toInt (m.1 x0 3)) ≤ (Int32.toInt x7)) [] 268 249 rfl (fun _ => rfl) (fun c0 => ?_) (fun c0 => ?_)
    · exact dw_j rfl (fun lv1 hv => k_X10_stuck_b268 (Φ := (fun t => Φ (Option.bind (t.map (fun z => Sum.inr (z))) (dc_bk (d_X10_stuck_l240s x0 x1 x2 x3 x5 m))))) x1 x2 x5 x6 m (fun _a _b => kR _a _b)  (hv.1 _ rfl) (hv.2.1 _ rfl) (hv.2.2.1 _ rfl) (hv.2.2.2.1 _ rfl))
    · refine dw_g rfl ?_
      refine dg_s (pc' := 251) [.int x6] rfl (fun _ => rfl) rfl ?_
      refine dg_s (pc' := 252) [.int (1 : Int32), .int x6] rfl (fun _ => rfl) rfl ?_
      refine dg_s (pc' := 253) [.int x3, .int (1 : Int32), .int x6] rfl (fun _ => rfl) rfl ?_
      refine dg_s (pc' := 255) [.int x7, .int x3, .int (1 : Int32), .int x6] rfl (fun _ => rfl) rfl ?_
      refine dg_s (pc' := 256) [.int (x3 >>> (x7 &&& 31)), .int (1 : Int32), .int x6] rfl (fun _ => rfl) rfl ?_
      refine dg_s (pc' := 257) [.int (1 : Int32), .int (x3 >>> (x7 &&& 31)), .int (1 : Int32), .int x6] rfl (fun _ => rfl) rfl ?_
      refine dg_s (pc' := 258) [.int ((x3 >>> (x7 &&& 31)) &&& (1 : Int32)), .int (1 : Int32), .int x6] rfl (fun _ => rfl) rfl ?_
      refine dg_s (pc' := 259) [.int ((1 : Int32) - ((x3 >>> (x7 &&& 31)) &&& (1 : Int32))), .int x6] rfl (fun _ => rfl) rfl ?_
      refine dg_s (pc' := 260) [.int (x6 + ((1 : Int32) - ((x3 >>> (x7 &&& 31)) &&& (1 : Int32))))] rfl (fun _ => rfl) rfl ?_
      refine dg_L (pc' := 262) [(6, .int (x6 + ((1 : Int32) - ((x3 >>> (x7 &&& 31)) &&& (1 : Int32))))), (0, .ref x0), (1, .int x1), (2, .int x2), (3, .int x3), (5, .int x5), (7, .int x7)] [] rfl (fun _ => rfl) rfl ?_
      refine dg_L (pc' := 265) [(7, .int (x7 + (1 : Int32))), (6, .int (x6 + ((1 : Int32) - ((x3 >>> (x7 &&& 31)) &&& (1 : Int32))))), (0, .ref x0), (1, .int x1), (2, .int x2), (3, .int x3), (5, .int x5)] [] rfl (fun _ => rfl) rfl ?_
      refine dw_s (pc' := 240) [] rfl (fun _ => rfl) ?_
      exact dw_j rfl (fun lv1 hv => ih (x6 + ((1 : Int32) - ((x3 >>> (x7 &&& 31)) &&& (1 : Int32)))) (x7 + (1 : Int32)) lv1 (hv.1 _ rfl) (hv.2.1 _ rfl) (hv.2.2.1 _ rfl) (hv.2.2.2.1 _ rfl) (hv.2.2.2.2.1 _ rfl) (hv.2.2.2.2.2.1 _ rfl) (hv.2.2.2.2.2.2.1 _ rfl))
noncomputable def d_X10_stuck_l202b (x0 : Nat) (x1 : Int32) (x2 : Int32) (x3 : Int32) (x6 : Int32) (x5 : Int32) (x7 : Int32) (m : dc_M) : Option ((Int32 × Int32) ⊕ (Int32 × dc_M)) :=
  (if (Int32.toInt (m.1 x0 32)) ≤ (Int32.toInt x7) then ((d_X10_stuck_l240 x0 x1 x2 x3 x5 x6 (0 : Int32) m).map (fun z => Sum.inr (z))) else (if (Int32.toInt (m.1 (x0 + 20) (Int32.toNatClampNeg x7))) = 0 then some (Sum.inl ((x5 + (1 : Int32)), (x7 + (1 : Int32)))) else some (Sum.inl ((x5 + (0 : Int32)), (x7 + (1 : Int32))))))
noncomputable def d_X10_stuck_l202s (x0 : Nat) (x1 : Int32) (x2 : Int32) (x3 : Int32) (x6 : Int32) (m : dc_M) : (Int32 × Int32) → Option ((Int32 × Int32) ⊕ (Int32 × dc_M)) := fun s => d_X10_stuck_l202b x0 x1 x2 x3 x6 s.1 s.2 m
noncomputable def d_X10_stuck_l202 (x0 : Nat) (x1 : Int32) (x2 : Int32) (x3 : Int32) (x6 : Int32) (x5 : Int32) (x7 : Int32) (m : dc_M) : Option (Int32 × dc_M) := dc_lp (d_X10_stuck_l202s x0 x1 x2 x3 x6 m) (x5, x7)
set_option maxHeartbeats 8000000 in
theorem k_X10_stuck_l202 {u : Nat} {Φ : (Option (Int32 × dc_M)) → Option Value → dc_M → Prop} (x0 : Nat) (x1 : Int32) (x2 : Int32) (x3 : Int32) (x6 : Int32) (m : dc_M) (kR : ∀ (v : Int32) (m : dc_M), Φ (some ((v, m))) (some (.int v)) m) : ∀ (N : Nat), ∀ (x5 : Int32) (x7 : Int32) (lv : ab_L), ab_lk lv 0 = some (.ref x0) → ab_lk lv 1 = some (.int x1) → ab_lk lv 2 = some (.int x2) → ab_lk lv 3 = some (.int x3) → ab_lk lv 5 = some (.int x5) → ab_lk lv 6 = some (.int x6) → ab_lk lv 7 = some (.int x7) → dc_pv u N ab_M_X10_stuck 202 lv [] m (Φ (d_X10_stuck_l202 x0 x1 x2 x3 x6 x5 x7 m)) := by
  intro N
  induction N with
  | zero => intros; exact dc_pv_zero
  | succ N ih =>
    intro x5 x7 lv f0 f1 f2 f3 f5 f6 f7
    refine dc_ok (C := C_X10_stuck) (S := S_X10_stuck) CO_X10_stuck 400 202 [(0, .ref x0), (1, .int x1), (2, .int x2), (3, .int x3), (5, .int x5), (6, .int x6), (7, .int x7)] lv [] m (dc_sub_cons f0 (dc_sub_cons f1 (dc_sub_cons f2 (dc_sub_cons f3 (dc_sub_cons f5 (dc_sub_cons f6 (dc_sub_cons f7 (dc_sub_nil)))))))) ?_
    unfold d_X10_stuck_l202
    rw [dc_lp_eq]
    show (fun t x => dc_lf u N ab_M_X10_stuck (Φ (Option.bind t (dc_bk (d_X10_stuck_l202s x0 x1 x2 x3 x6 m)))) x) (d_X10_stuck_l202b x0 x1 x2 x3 x6 x5 x7 m) _
    dsimp only
    unfold d_X10_stuck_l202b
    refine dg_s (pc' := 204) [.int x7] rfl (fun _ => rfl) rfl ?_
    refine dg_s (pc' := 205) [.ref x0, .int x7] rfl (fun _ => rfl) rfl ?_
    refine dg_s (pc' := 208) [.int (m.1 x0 32), .int x7] rfl (fun _ => rfl) rfl ?_
    refine dw_if (fun t => Φ (Option.bind t (dc_bk (d_X10_stuck_l202s x0 x1 x2 x3 x6 m)))) ((Int32.toInt (m.1 x0 32)) ≤ (Int32.toInt x7)) [] 237 211 rfl (fun _ => rfl) (fun c0 => ?_) (fun c0 => ?_)
    · refine dw_g rfl ?_
      refine dg_s (pc' := 238) [.int (0 : Int32)] rfl (fun _ => rfl) rfl ?_
      refine dw_L (pc' := 240) [(7, .int (0 : Int32)), (0, .ref x0), (1, .int x1), (2, .int x2), (3, .int x3), (5, .int x5), (6, .int x6)] [] rfl (fun _ => rfl) ?_
      exact dw_j rfl (fun lv1 hv => k_X10_stuck_l240 (Φ := (fun t => Φ (Option.bind (t.map (fun z => Sum.inr (z))) (dc_bk (d_X10_stuck_l202s x0 x1 x2 x3 x6 m))))) x0 x1 x2 x3 x5 m (fun _a _b => kR _a _b) N  x6 (0 : Int32) lv1 (hv.1 _ rfl) (hv.2.1 _ rfl) (hv.2.2.1 _ rfl) (hv.2.2.2.1 _ rfl) (hv.2.2.2.2.1 _ rfl) (hv.2.2.2.2.2.1 _ rfl) (hv.2.2.2.2.2.2.1 _ rfl))
    · refine dw_g rfl ?_
      refine dg_s (pc' := 213) [.int x5] rfl (fun _ => rfl) rfl ?_
      refine dg_s (pc' := 214) [.ref x0, .int x5] rfl (fun _ => rfl) rfl ?_
      refine dg_s (pc' := 217) [.ref (x0 + 20), .int x5] rfl (fun _ => rfl) rfl ?_
      refine dg_s (pc' := 219) [.int x7, .ref (x0 + 20), .int x5] rfl (fun _ => rfl) rfl ?_
      refine dg_s (pc' := 220) [.int (m.1 (x0 + 20) (Int32.toNatClampNeg x7)), .int x5] rfl (fun _ => rfl) rfl ?_
      refine dw_if (fun t => Φ (Option.bind t (dc_bk (d_X10_stuck_l202s x0 x1 x2 x3 x6 m)))) ((Int32.toInt (m.1 (x0 + 20) (Int32.toNatClampNeg x7))) = 0) [.int x5] 227 223 rfl (fun _ => rfl) (fun c1 => ?_) (fun c1 => ?_)
      · refine dw_g rfl ?_
        refine dg_s (pc' := 228) [.int (1 : Int32), .int x5] rfl (fun _ => rfl) rfl ?_
        refine dg_s (pc' := 229) [.int (x5 + (1 : Int32))] rfl (fun _ => rfl) rfl ?_
        refine dg_L (pc' := 231) [(5, .int (x5 + (1 : Int32))), (0, .ref x0), (1, .int x1), (2, .int x2), (3, .int x3), (6, .int x6), (7, .int x7)] [] rfl (fun _ => rfl) rfl ?_
        refine dg_L (pc' := 234) [(7, .int (x7 + (1 : Int32))), (5, .int (x5 + (1 : Int32))), (0, .ref x0), (1, .int x1), (2, .int x2), (3, .int x3), (6, .int x6)] [] rfl (fun _ => rfl) rfl ?_
        refine dw_s (pc' := 202) [] rfl (fun _ => rfl) ?_
        exact dw_j rfl (fun lv1 hv => ih (x5 + (1 : Int32)) (x7 + (1 : Int32)) lv1 (hv.1 _ rfl) (hv.2.1 _ rfl) (hv.2.2.1 _ rfl) (hv.2.2.2.1 _ rfl) (hv.2.2.2.2.1 _ rfl) (hv.2.2.2.2.2.1 _ rfl) (hv.2.2.2.2.2.2.1 _ rfl))
      · refine dw_g rfl ?_
        refine dg_s (pc' := 224) [.int (0 : Int32), .int x5] rfl (fun _ => rfl) rfl ?_
        refine dg_s (pc' := 228) [.int (0 : Int32), .int x5] rfl (fun _ => rfl) rfl ?_
        refine dg_s (pc' := 229) [.int (x5 + (0 : Int32))] rfl (fun _ => rfl) rfl ?_
        refine dg_L (pc' := 231) [(5, .int (x5 + (0 : Int32))), (0, .ref x0), (1, .int x1), (2, .int x2), (3, .int x3), (6, .int x6), (7, .int x7)] [] rfl (fun _ => rfl) rfl ?_
        refine dg_L (pc' := 234) [(7, .int (x7 + (1 : Int32))), (5, .int (x5 + (0 : Int32))), (0, .ref x0), (1, .int x1), (2, .int x2), (3, .int x3), (6, .int x6)] [] rfl (fun _ => rfl) rfl ?_
        refine dw_s (pc' := 202) [] rfl (fun _ => rfl) ?_
        exact dw_j rfl (fun lv1 hv => ih (x5 + (0 : Int32)) (x7 + (1 : Int32)) lv1 (hv.1 _ rfl) (hv.2.1 _ rfl) (hv.2.2.1 _ rfl) (hv.2.2.2.1 _ rfl) (hv.2.2.2.2.1 _ rfl) (hv.2.2.2.2.2.1 _ rfl) (hv.2.2.2.2.2.2.1 _ rfl))
noncomputable def d_X10_stuck_l116b (x0 : Nat) (x1 : Int32) (x2 : Int32) (x3 : Int32) (x5 : Int32) (x4 : Int32) (x6 : Int32) (m : dc_M) : Option ((Int32 × Int32 × dc_M) ⊕ ((Int32 × Int32 × dc_M) ⊕ ((Int32 × dc_M) ⊕ (Int32 × dc_M)))) :=
  (if (Int32.toInt (m.1 x0 3)) ≤ (Int32.toInt x6) then some (Sum.inr (Sum.inl (x4, (x5 + (1 : Int32)), m))) else (if ¬ (Int32.toInt (m.1 (x0 + 20) (Int32.toNatClampNeg x5))) = 0 then some (Sum.inr (Sum.inl (x4, (x5 + (1 : Int32)), m))) else (if (Int32.toInt (m.1 (x0 + 18) (Int32.toNatClampNeg (((16 : Int32) * x5) + x6)))) = (-4) then some (Sum.inl (x4, (x6 + (1 : Int32)), m)) else (if (Int32.toInt (m.1 (x0 + 20) (Int32.toNatClampNeg (m.1 (x0 + 18) (Int32.toNatClampNeg (((16 : Int32) * x5) + x6)))))) = 0 then some (Sum.inl (x4, (x6 + (1 : Int32)), m)) else some (Sum.inl ((1 : Int32), (x6 + (1 : Int32)), (dc_wi m (x0 + 20) (Int32.toNatClampNeg x5) (dc_nar (m.2.2.2 (x0 + 20)).1 (1 : Int32)))))))))
noncomputable def d_X10_stuck_l116s (x0 : Nat) (x1 : Int32) (x2 : Int32) (x3 : Int32) (x5 : Int32) : (Int32 × Int32 × dc_M) → Option ((Int32 × Int32 × dc_M) ⊕ ((Int32 × Int32 × dc_M) ⊕ ((Int32 × dc_M) ⊕ (Int32 × dc_M)))) := fun s => d_X10_stuck_l116b x0 x1 x2 x3 x5 s.1 s.2.1 s.2.2
noncomputable def d_X10_stuck_l116 (x0 : Nat) (x1 : Int32) (x2 : Int32) (x3 : Int32) (x5 : Int32) (x4 : Int32) (x6 : Int32) (m : dc_M) : Option ((Int32 × Int32 × dc_M) ⊕ ((Int32 × dc_M) ⊕ (Int32 × dc_M))) := dc_lp (d_X10_stuck_l116s x0 x1 x2 x3 x5) (x4, x6, m)
set_option maxHeartbeats 8000000 in
theorem k_X10_stuck_l116 {u : Nat} {Φ : (Option ((Int32 × Int32 × dc_M) ⊕ ((Int32 × dc_M) ⊕ (Int32 × dc_M)))) → Option Value → dc_M → Prop} (x0 : Nat) (x1 : Int32) (x2 : Int32) (x3 : Int32) (x5 : Int32) (kR : ∀ (v : Int32) (m : dc_M), Φ (some (Sum.inr (Sum.inr ((v, m))))) (some (.int v)) m) : ∀ (N : Nat), (∀ (x4 : Int32) (x5 : Int32) (m : dc_M) (lv : ab_L), ab_lk lv 0 = some (.ref x0) → ab_lk lv 1 = some (.int x1) → ab_lk lv 2 = some (.int x2) → ab_lk lv 3 = some (.int x3) → ab_lk lv 4 = some (.int x4) → ab_lk lv 5 = some (.int x5) →  dc_pv u N ab_M_X10_stuck 104 lv [] m (Φ (some (Sum.inl (x4, x5, m))))) → (∀ (x4 : Int32) (m : dc_M) (lv : ab_L), ab_lk lv 0 = some (.ref x0) → ab_lk lv 1 = some (.int x1) → ab_lk lv 2 = some (.int x2) → ab_lk lv 3 = some (.int x3) → ab_lk lv 4 = some (.int x4) →  dc_pv u N ab_M_X10_stuck 93 lv [] m (Φ (some (Sum.inr (Sum.inl (x4, m)))))) → ∀ (x4 : Int32) (x6 : Int32) (m : dc_M) (lv : ab_L), ab_lk lv 0 = some (.ref x0) → ab_lk lv 1 = some (.int x1) → ab_lk lv 2 = some (.int x2) → ab_lk lv 3 = some (.int x3) → ab_lk lv 4 = some (.int x4) → ab_lk lv 5 = some (.int x5) → ab_lk lv 6 = some (.int x6) → dc_pv u N ab_M_X10_stuck 116 lv [] m (Φ (d_X10_stuck_l116 x0 x1 x2 x3 x5 x4 x6 m)) := by
  intro N
  induction N with
  | zero => intros; exact dc_pv_zero
  | succ N ih =>
    intro k104 k93 x4 x6 m lv f0 f1 f2 f3 f4 f5 f6
    have k104 := fun a0 a1 a2 a3 a4 a5 a6 a7 a8 a9 => (k104 a0 a1 a2 a3 a4 a5 a6 a7 a8 a9).mono (Nat.le_succ N)
    have k93 := fun a0 a1 a2 a3 a4 a5 a6 a7 => (k93 a0 a1 a2 a3 a4 a5 a6 a7).mono (Nat.le_succ N)
    have ih := ih k104 k93
    refine dc_ok (C := C_X10_stuck) (S := S_X10_stuck) CO_X10_stuck 400 116 [(0, .ref x0), (1, .int x1), (2, .int x2), (3, .int x3), (4, .int x4), (5, .int x5), (6, .int x6)] lv [] m (dc_sub_cons f0 (dc_sub_cons f1 (dc_sub_cons f2 (dc_sub_cons f3 (dc_sub_cons f4 (dc_sub_cons f5 (dc_sub_cons f6 (dc_sub_nil)))))))) ?_
    unfold d_X10_stuck_l116
    rw [dc_lp_eq]
    show (fun t x => dc_lf u N ab_M_X10_stuck (Φ (Option.bind t (dc_bk (d_X10_stuck_l116s x0 x1 x2 x3 x5)))) x) (d_X10_stuck_l116b x0 x1 x2 x3 x5 x4 x6 m) _
    dsimp only
    unfold d_X10_stuck_l116b
    refine dg_s (pc' := 118) [.int x6] rfl (fun _ => rfl) rfl ?_
    refine dg_s (pc' := 119) [.ref x0, .int x6] rfl (fun _ => rfl) rfl ?_
    refine dg_s (pc' := 122) [.int (m.1 x0 3), .int x6] rfl (fun _ => rfl) rfl ?_
    refine dw_if (fun t => Φ (Option.bind t (dc_bk (d_X10_stuck_l116s x0 x1 x2 x3 x5)))) ((Int32.toInt (m.1 x0 3)) ≤ (Int32.toInt x6)) [] 184 125 rfl (fun _ => rfl) (fun c0 => ?_) (fun c0 => ?_)
    · refine dw_g rfl ?_
      refine dg_L (pc' := 187) [(5, .int (x5 + (1 : Int32))), (0, .ref x0), (1, .int x1), (2, .int x2), (3, .int x3), (4, .int x4), (6, .int x6)] [] rfl (fun _ => rfl) rfl ?_
      refine dw_s (pc' := 104) [] rfl (fun _ => rfl) ?_
      exact dw_j rfl (fun lv1 hv => k104 x4 (x5 + (1 : Int32)) m lv1 (hv.1 _ rfl) (hv.2.1 _ rfl) (hv.2.2.1 _ rfl) (hv.2.2.2.1 _ rfl) (hv.2.2.2.2.1 _ rfl) (hv.2.2.2.2.2.1 _ rfl))
    · refine dw_g rfl ?_
      refine dg_s (pc' := 126) [.ref x0] rfl (fun _ => rfl) rfl ?_
      refine dg_s (pc' := 129) [.ref (x0 + 20)] rfl (fun _ => rfl) rfl ?_
      refine dg_s (pc' := 131) [.int x5, .ref (x0 + 20)] rfl (fun _ => rfl) rfl ?_
      refine dg_s (pc' := 132) [.int (m.1 (x0 + 20) (Int32.toNatClampNeg x5))] rfl (fun _ => rfl) rfl ?_
      refine dw_if (fun t => Φ (Option.bind t (dc_bk (d_X10_stuck_l116s x0 x1 x2 x3 x5)))) (¬ (Int32.toInt (m.1 (x0 + 20) (Int32.toNatClampNeg x5))) = 0) [] 184 135 rfl (fun _ => rfl) (fun c1 => ?_) (fun c1 => ?_)
      · refine dw_g rfl ?_
        refine dg_L (pc' := 187) [(5, .int (x5 + (1 : Int32))), (0, .ref x0), (1, .int x1), (2, .int x2), (3, .int x3), (4, .int x4), (6, .int x6)] [] rfl (fun _ => rfl) rfl ?_
        refine dw_s (pc' := 104) [] rfl (fun _ => rfl) ?_
        exact dw_j rfl (fun lv1 hv => k104 x4 (x5 + (1 : Int32)) m lv1 (hv.1 _ rfl) (hv.2.1 _ rfl) (hv.2.2.1 _ rfl) (hv.2.2.2.1 _ rfl) (hv.2.2.2.2.1 _ rfl) (hv.2.2.2.2.2.1 _ rfl))
      · refine dw_g rfl ?_
        refine dg_s (pc' := 136) [.ref x0] rfl (fun _ => rfl) rfl ?_
        refine dg_s (pc' := 139) [.ref (x0 + 18)] rfl (fun _ => rfl) rfl ?_
        refine dg_s (pc' := 141) [.int (16 : Int32), .ref (x0 + 18)] rfl (fun _ => rfl) rfl ?_
        refine dg_s (pc' := 143) [.int x5, .int (16 : Int32), .ref (x0 + 18)] rfl (fun _ => rfl) rfl ?_
        refine dg_s (pc' := 144) [.int ((16 : Int32) * x5), .ref (x0 + 18)] rfl (fun _ => rfl) rfl ?_
        refine dg_s (pc' := 146) [.int x6, .int ((16 : Int32) * x5), .ref (x0 + 18)] rfl (fun _ => rfl) rfl ?_
        refine dg_s (pc' := 147) [.int (((16 : Int32) * x5) + x6), .ref (x0 + 18)] rfl (fun _ => rfl) rfl ?_
        refine dg_s (pc' := 148) [.int (m.1 (x0 + 18) (Int32.toNatClampNeg (((16 : Int32) * x5) + x6)))] rfl (fun _ => rfl) rfl ?_
        refine dg_L (pc' := 150) [(7, .int (m.1 (x0 + 18) (Int32.toNatClampNeg (((16 : Int32) * x5) + x6)))), (0, .ref x0), (1, .int x1), (2, .int x2), (3, .int x3), (4, .int x4), (5, .int x5), (6, .int x6)] [] rfl (fun _ => rfl) rfl ?_
        refine dg_s (pc' := 152) [.int (m.1 (x0 + 18) (Int32.toNatClampNeg (((16 : Int32) * x5) + x6)))] rfl (fun _ => rfl) rfl ?_
        refine dg_s (pc' := 154) [.int (-4 : Int32), .int (m.1 (x0 + 18) (Int32.toNatClampNeg (((16 : Int32) * x5) + x6)))] rfl (fun _ => rfl) rfl ?_
        refine dw_if (fun t => Φ (Option.bind t (dc_bk (d_X10_stuck_l116s x0 x1 x2 x3 x5)))) ((Int32.toInt (m.1 (x0 + 18) (Int32.toNatClampNeg (((16 : Int32) * x5) + x6)))) = (-4)) [] 178 157 rfl (fun _ => rfl) (fun c2 => ?_) (fun c2 => ?_)
        · refine dw_g rfl ?_
          refine dg_L (pc' := 181) [(6, .int (x6 + (1 : Int32))), (7, .int (m.1 (x0 + 18) (Int32.toNatClampNeg (((16 : Int32) * x5) + x6)))), (0, .ref x0), (1, .int x1), (2, .int x2), (3, .int x3), (4, .int x4), (5, .int x5)] [] rfl (fun _ => rfl) rfl ?_
          refine dw_s (pc' := 116) [] rfl (fun _ => rfl) ?_
          exact dw_j rfl (fun lv1 hv => ih x4 (x6 + (1 : Int32)) m lv1 (hv.1 _ rfl) (hv.2.1 _ rfl) (hv.2.2.1 _ rfl) (hv.2.2.2.1 _ rfl) (hv.2.2.2.2.1 _ rfl) (hv.2.2.2.2.2.1 _ rfl) (hv.2.2.2.2.2.2.1 _ rfl))
        · refine dw_g rfl ?_
          refine dg_s (pc' := 158) [.ref x0] rfl (fun _ => rfl) rfl ?_
          refine dg_s (pc' := 161) [.ref (x0 + 20)] rfl (fun _ => rfl) rfl ?_
          refine dg_s (pc' := 163) [.int (m.1 (x0 + 18) (Int32.toNatClampNeg (((16 : Int32) * x5) + x6))), .ref (x0 + 20)] rfl (fun _ => rfl) rfl ?_
          refine dg_s (pc' := 164) [.int (m.1 (x0 + 20) (Int32.toNatClampNeg (m.1 (x0 + 18) (Int32.toNatClampNeg (((16 : Int32) * x5) + x6)))))] rfl (fun _ => rfl) rfl ?_
          refine dw_if (fun t => Φ (Option.bind t (dc_bk (d_X10_stuck_l116s x0 x1 x2 x3 x5)))) ((Int32.toInt (m.1 (x0 + 20) (Int32.toNatClampNeg (m.1 (x0 + 18) (Int32.toNatClampNeg (((16 : Int32) * x5) + x6)))))) = 0) [] 178 167 rfl (fun _ => rfl) (fun c3 => ?_) (fun c3 => ?_)
          · refine dw_g rfl ?_
            refine dg_L (pc' := 181) [(6, .int (x6 + (1 : Int32))), (7, .int (m.1 (x0 + 18) (Int32.toNatClampNeg (((16 : Int32) * x5) + x6)))), (0, .ref x0), (1, .int x1), (2, .int x2), (3, .int x3), (4, .int x4), (5, .int x5)] [] rfl (fun _ => rfl) rfl ?_
            refine dw_s (pc' := 116) [] rfl (fun _ => rfl) ?_
            exact dw_j rfl (fun lv1 hv => ih x4 (x6 + (1 : Int32)) m lv1 (hv.1 _ rfl) (hv.2.1 _ rfl) (hv.2.2.1 _ rfl) (hv.2.2.2.1 _ rfl) (hv.2.2.2.2.1 _ rfl) (hv.2.2.2.2.2.1 _ rfl) (hv.2.2.2.2.2.2.1 _ rfl))
          · refine dw_g rfl ?_
            refine dg_s (pc' := 168) [.ref x0] rfl (fun _ => rfl) rfl ?_
            refine dg_s (pc' := 171) [.ref (x0 + 20)] rfl (fun _ => rfl) rfl ?_
            refine dg_s (pc' := 173) [.int x5, .ref (x0 + 20)] rfl (fun _ => rfl) rfl ?_
            refine dg_s (pc' := 174) [.int (1 : Int32), .int x5, .ref (x0 + 20)] rfl (fun _ => rfl) rfl ?_
            refine dg_m (pc' := 175) (dc_wi m (x0 + 20) (Int32.toNatClampNeg x5) (dc_nar (m.2.2.2 (x0 + 20)).1 (1 : Int32))) [] rfl (fun _ => rfl) rfl ?_
            refine dg_s (pc' := 176) [.int (1 : Int32)] rfl (fun _ => rfl) rfl ?_
            refine dg_L (pc' := 178) [(4, .int (1 : Int32)), (7, .int (m.1 (x0 + 18) (Int32.toNatClampNeg (((16 : Int32) * x5) + x6)))), (0, .ref x0), (1, .int x1), (2, .int x2), (3, .int x3), (5, .int x5), (6, .int x6)] [] rfl (fun _ => rfl) rfl ?_
            refine dg_L (pc' := 181) [(6, .int (x6 + (1 : Int32))), (4, .int (1 : Int32)), (7, .int (m.1 (x0 + 18) (Int32.toNatClampNeg (((16 : Int32) * x5) + x6)))), (0, .ref x0), (1, .int x1), (2, .int x2), (3, .int x3), (5, .int x5)] [] rfl (fun _ => rfl) rfl ?_
            refine dw_s (pc' := 116) [] rfl (fun _ => rfl) ?_
            exact dw_j rfl (fun lv1 hv => ih (1 : Int32) (x6 + (1 : Int32)) (dc_wi m (x0 + 20) (Int32.toNatClampNeg x5) (dc_nar (m.2.2.2 (x0 + 20)).1 (1 : Int32))) lv1 (hv.1 _ rfl) (hv.2.1 _ rfl) (hv.2.2.1 _ rfl) (hv.2.2.2.1 _ rfl) (hv.2.2.2.2.1 _ rfl) (hv.2.2.2.2.2.1 _ rfl) (hv.2.2.2.2.2.2.1 _ rfl))
noncomputable def d_X10_stuck_l104b (x0 : Nat) (x1 : Int32) (x2 : Int32) (x3 : Int32) (x4 : Int32) (x5 : Int32) (m : dc_M) : Option ((Int32 × Int32 × dc_M) ⊕ ((Int32 × dc_M) ⊕ (Int32 × dc_M))) :=
  (if (Int32.toInt (m.1 x0 32)) ≤ (Int32.toInt x5) then some (Sum.inr (Sum.inl (x4, m))) else (d_X10_stuck_l116 x0 x1 x2 x3 x5 x4 (0 : Int32) m))
noncomputable def d_X10_stuck_l104s (x0 : Nat) (x1 : Int32) (x2 : Int32) (x3 : Int32) : (Int32 × Int32 × dc_M) → Option ((Int32 × Int32 × dc_M) ⊕ ((Int32 × dc_M) ⊕ (Int32 × dc_M))) := fun s => d_X10_stuck_l104b x0 x1 x2 x3 s.1 s.2.1 s.2.2
noncomputable def d_X10_stuck_l104 (x0 : Nat) (x1 : Int32) (x2 : Int32) (x3 : Int32) (x4 : Int32) (x5 : Int32) (m : dc_M) : Option ((Int32 × dc_M) ⊕ (Int32 × dc_M)) := dc_lp (d_X10_stuck_l104s x0 x1 x2 x3) (x4, x5, m)
set_option maxHeartbeats 8000000 in
theorem k_X10_stuck_l104 {u : Nat} {Φ : (Option ((Int32 × dc_M) ⊕ (Int32 × dc_M))) → Option Value → dc_M → Prop} (x0 : Nat) (x1 : Int32) (x2 : Int32) (x3 : Int32) (kR : ∀ (v : Int32) (m : dc_M), Φ (some (Sum.inr ((v, m)))) (some (.int v)) m) : ∀ (N : Nat), (∀ (x4 : Int32) (m : dc_M) (lv : ab_L), ab_lk lv 0 = some (.ref x0) → ab_lk lv 1 = some (.int x1) → ab_lk lv 2 = some (.int x2) → ab_lk lv 3 = some (.int x3) → ab_lk lv 4 = some (.int x4) →  dc_pv u N ab_M_X10_stuck 93 lv [] m (Φ (some (Sum.inl (x4, m))))) → ∀ (x4 : Int32) (x5 : Int32) (m : dc_M) (lv : ab_L), ab_lk lv 0 = some (.ref x0) → ab_lk lv 1 = some (.int x1) → ab_lk lv 2 = some (.int x2) → ab_lk lv 3 = some (.int x3) → ab_lk lv 4 = some (.int x4) → ab_lk lv 5 = some (.int x5) → dc_pv u N ab_M_X10_stuck 104 lv [] m (Φ (d_X10_stuck_l104 x0 x1 x2 x3 x4 x5 m)) := by
  intro N
  induction N with
  | zero => intros; exact dc_pv_zero
  | succ N ih =>
    intro k93 x4 x5 m lv f0 f1 f2 f3 f4 f5
    have k93 := fun a0 a1 a2 a3 a4 a5 a6 a7 => (k93 a0 a1 a2 a3 a4 a5 a6 a7).mono (Nat.le_succ N)
    have ih := ih k93
    refine dc_ok (C := C_X10_stuck) (S := S_X10_stuck) CO_X10_stuck 400 104 [(0, .ref x0), (1, .int x1), (2, .int x2), (3, .int x3), (4, .int x4), (5, .int x5)] lv [] m (dc_sub_cons f0 (dc_sub_cons f1 (dc_sub_cons f2 (dc_sub_cons f3 (dc_sub_cons f4 (dc_sub_cons f5 (dc_sub_nil))))))) ?_
    unfold d_X10_stuck_l104
    rw [dc_lp_eq]
    show (fun t x => dc_lf u N ab_M_X10_stuck (Φ (Option.bind t (dc_bk (d_X10_stuck_l104s x0 x1 x2 x3)))) x) (d_X10_stuck_l104b x0 x1 x2 x3 x4 x5 m) _
    dsimp only
    unfold d_X10_stuck_l104b
    refine dg_s (pc' := 106) [.int x5] rfl (fun _ => rfl) rfl ?_
    refine dg_s (pc' := 107) [.ref x0, .int x5] rfl (fun _ => rfl) rfl ?_
    refine dg_s (pc' := 110) [.int (m.1 x0 32), .int x5] rfl (fun _ => rfl) rfl ?_
    refine dw_if (fun t => Φ (Option.bind t (dc_bk (d_X10_stuck_l104s x0 x1 x2 x3)))) ((Int32.toInt (m.1 x0 32)) ≤ (Int32.toInt x5)) [] 190 113 rfl (fun _ => rfl) (fun c0 => ?_) (fun c0 => ?_)
    · refine dw_g rfl ?_
      refine dw_s (pc' := 93) [] rfl (fun _ => rfl) ?_
      exact dw_j rfl (fun lv1 hv => k93 x4 m lv1 (hv.1 _ rfl) (hv.2.1 _ rfl) (hv.2.2.1 _ rfl) (hv.2.2.2.1 _ rfl) (hv.2.2.2.2.1 _ rfl))
    · refine dw_g rfl ?_
      refine dg_s (pc' := 114) [.int (0 : Int32)] rfl (fun _ => rfl) rfl ?_
      refine dw_L (pc' := 116) [(6, .int (0 : Int32)), (0, .ref x0), (1, .int x1), (2, .int x2), (3, .int x3), (4, .int x4), (5, .int x5)] [] rfl (fun _ => rfl) ?_
      exact dw_j rfl (fun lv1 hv => k_X10_stuck_l116 (Φ := (fun t => Φ (Option.bind t (dc_bk (d_X10_stuck_l104s x0 x1 x2 x3))))) x0 x1 x2 x3 x5 (fun _a _b => kR _a _b) N ih k93 x4 (0 : Int32) m lv1 (hv.1 _ rfl) (hv.2.1 _ rfl) (hv.2.2.1 _ rfl) (hv.2.2.2.1 _ rfl) (hv.2.2.2.2.1 _ rfl) (hv.2.2.2.2.2.1 _ rfl) (hv.2.2.2.2.2.2.1 _ rfl))
noncomputable def d_X10_stuck_l93b (x0 : Nat) (x1 : Int32) (x2 : Int32) (x3 : Int32) (x4 : Int32) (m : dc_M) : Option ((Int32 × dc_M) ⊕ (Int32 × dc_M)) :=
  (if (Int32.toInt x4) = 0 then ((d_X10_stuck_l202 x0 x1 x2 x3 (0 : Int32) (0 : Int32) (0 : Int32) m).map (fun z => Sum.inr (z))) else (d_X10_stuck_l104 x0 x1 x2 x3 (0 : Int32) (0 : Int32) m))
noncomputable def d_X10_stuck_l93s (x0 : Nat) (x1 : Int32) (x2 : Int32) (x3 : Int32) : (Int32 × dc_M) → Option ((Int32 × dc_M) ⊕ (Int32 × dc_M)) := fun s => d_X10_stuck_l93b x0 x1 x2 x3 s.1 s.2
noncomputable def d_X10_stuck_l93 (x0 : Nat) (x1 : Int32) (x2 : Int32) (x3 : Int32) (x4 : Int32) (m : dc_M) : Option (Int32 × dc_M) := dc_lp (d_X10_stuck_l93s x0 x1 x2 x3) (x4, m)
set_option maxHeartbeats 8000000 in
theorem k_X10_stuck_l93 {u : Nat} {Φ : (Option (Int32 × dc_M)) → Option Value → dc_M → Prop} (x0 : Nat) (x1 : Int32) (x2 : Int32) (x3 : Int32) (kR : ∀ (v : Int32) (m : dc_M), Φ (some ((v, m))) (some (.int v)) m) : ∀ (N : Nat), ∀ (x4 : Int32) (m : dc_M) (lv : ab_L), ab_lk lv 0 = some (.ref x0) → ab_lk lv 1 = some (.int x1) → ab_lk lv 2 = some (.int x2) → ab_lk lv 3 = some (.int x3) → ab_lk lv 4 = some (.int x4) → dc_pv u N ab_M_X10_stuck 93 lv [] m (Φ (d_X10_stuck_l93 x0 x1 x2 x3 x4 m)) := by
  intro N
  induction N with
  | zero => intros; exact dc_pv_zero
  | succ N ih =>
    intro x4 m lv f0 f1 f2 f3 f4
    refine dc_ok (C := C_X10_stuck) (S := S_X10_stuck) CO_X10_stuck 400 93 [(0, .ref x0), (1, .int x1), (2, .int x2), (3, .int x3), (4, .int x4)] lv [] m (dc_sub_cons f0 (dc_sub_cons f1 (dc_sub_cons f2 (dc_sub_cons f3 (dc_sub_cons f4 (dc_sub_nil)))))) ?_
    unfold d_X10_stuck_l93
    rw [dc_lp_eq]
    show (fun t x => dc_lf u N ab_M_X10_stuck (Φ (Option.bind t (dc_bk (d_X10_stuck_l93s x0 x1 x2 x3)))) x) (d_X10_stuck_l93b x0 x1 x2 x3 x4 m) _
    dsimp only
    unfold d_X10_stuck_l93b
    refine dg_s (pc' := 95) [.int x4] rfl (fun _ => rfl) rfl ?_
    refine dw_if (fun t => Φ (Option.bind t (dc_bk (d_X10_stuck_l93s x0 x1 x2 x3)))) ((Int32.toInt x4) = 0) [] 193 98 rfl (fun _ => rfl) (fun c0 => ?_) (fun c0 => ?_)
    · refine dw_g rfl ?_
      refine dg_s (pc' := 194) [.int (0 : Int32)] rfl (fun _ => rfl) rfl ?_
      refine dg_L (pc' := 196) [(5, .int (0 : Int32)), (0, .ref x0), (1, .int x1), (2, .int x2), (3, .int x3), (4, .int x4)] [] rfl (fun _ => rfl) rfl ?_
      refine dg_s (pc' := 197) [.int (0 : Int32)] rfl (fun _ => rfl) rfl ?_
      refine dg_L (pc' := 199) [(6, .int (0 : Int32)), (5, .int (0 : Int32)), (0, .ref x0), (1, .int x1), (2, .int x2), (3, .int x3), (4, .int x4)] [] rfl (fun _ => rfl) rfl ?_
      refine dg_s (pc' := 200) [.int (0 : Int32)] rfl (fun _ => rfl) rfl ?_
      refine dw_L (pc' := 202) [(7, .int (0 : Int32)), (6, .int (0 : Int32)), (5, .int (0 : Int32)), (0, .ref x0), (1, .int x1), (2, .int x2), (3, .int x3), (4, .int x4)] [] rfl (fun _ => rfl) ?_
      exact dw_j rfl (fun lv1 hv => k_X10_stuck_l202 (Φ := (fun t => Φ (Option.bind (t.map (fun z => Sum.inr (z))) (dc_bk (d_X10_stuck_l93s x0 x1 x2 x3))))) x0 x1 x2 x3 (0 : Int32) m (fun _a _b => kR _a _b) N  (0 : Int32) (0 : Int32) lv1 (hv.1 _ rfl) (hv.2.1 _ rfl) (hv.2.2.1 _ rfl) (hv.2.2.2.1 _ rfl) (hv.2.2.2.2.1 _ rfl) (hv.2.2.2.2.2.1 _ rfl) (hv.2.2.2.2.2.2.1 _ rfl))
    · refine dw_g rfl ?_
      refine dg_s (pc' := 99) [.int (0 : Int32)] rfl (fun _ => rfl) rfl ?_
      refine dg_L (pc' := 101) [(4, .int (0 : Int32)), (0, .ref x0), (1, .int x1), (2, .int x2), (3, .int x3)] [] rfl (fun _ => rfl) rfl ?_
      refine dg_s (pc' := 102) [.int (0 : Int32)] rfl (fun _ => rfl) rfl ?_
      refine dw_L (pc' := 104) [(5, .int (0 : Int32)), (4, .int (0 : Int32)), (0, .ref x0), (1, .int x1), (2, .int x2), (3, .int x3)] [] rfl (fun _ => rfl) ?_
      exact dw_j rfl (fun lv1 hv => k_X10_stuck_l104 (Φ := (fun t => Φ (Option.bind t (dc_bk (d_X10_stuck_l93s x0 x1 x2 x3))))) x0 x1 x2 x3 (fun _a _b => kR _a _b) N ih (0 : Int32) (0 : Int32) m lv1 (hv.1 _ rfl) (hv.2.1 _ rfl) (hv.2.2.1 _ rfl) (hv.2.2.2.1 _ rfl) (hv.2.2.2.2.1 _ rfl) (hv.2.2.2.2.2.1 _ rfl))
noncomputable def d_X10_stuck_b56 (x0 : Nat) (x1 : Int32) (x3 : Int32) (x4 : Int32) (s0 : Int32) (s1 : Int32) (m : dc_M) : Option ((Int32 × Int32 × Int32 × dc_M) ⊕ (Int32 × dc_M)) :=
  ((d_X10_readyIn x0 x4 m).bind (fun q1 => (if ¬ (Int32.toInt x4) = 0 then some (Sum.inl ((s1 + s0), (x3 ||| q1), (x4 + (1 : Int32)), (dc_wi m (x0 + 20) (Int32.toNatClampNeg x4) (dc_nar (m.2.2.2 (x0 + 20)).1 (0 : Int32))))) else some (Sum.inl ((s1 + s0), (x3 ||| q1), (x4 + (1 : Int32)), (dc_wi m (x0 + 20) (Int32.toNatClampNeg x4) (dc_nar (m.2.2.2 (x0 + 20)).1 (1 : Int32))))))))
set_option maxHeartbeats 8000000 in
theorem k_X10_stuck_b56 {u : Nat} {N : Nat} {Φ : (Option ((Int32 × Int32 × Int32 × dc_M) ⊕ (Int32 × dc_M))) → Option Value → dc_M → Prop} (x0 : Nat) (x1 : Int32) (x3 : Int32) (x4 : Int32) (s0 : Int32) (s1 : Int32) (m : dc_M) (kR : ∀ (v : Int32) (m : dc_M), Φ (some (Sum.inr ((v, m)))) (some (.int v)) m) (k32 : ∀ (x2 : Int32) (x3 : Int32) (x4 : Int32) (m : dc_M) (lv : ab_L), ab_lk lv 0 = some (.ref x0) → ab_lk lv 1 = some (.int x1) → ab_lk lv 2 = some (.int x2) → ab_lk lv 3 = some (.int x3) → ab_lk lv 4 = some (.int x4) →  dc_pv u N ab_M_X10_stuck 32 lv [] m (Φ (some (Sum.inl (x2, x3, x4, m))))) {lv : ab_L} (f0 : ab_lk lv 0 = some (.ref x0)) (f1 : ab_lk lv 1 = some (.int x1)) (f3 : ab_lk lv 3 = some (.int x3)) (f4 : ab_lk lv 4 = some (.int x4)) : dc_pv u N ab_M_X10_stuck 56 lv [.int s0, .int s1] m (Φ (d_X10_stuck_b56 x0 x1 x3 x4 s0 s1 m)) := by
  refine dc_pv.mono (dc_ok (C := C_X10_stuck) (S := S_X10_stuck) CO_X10_stuck 400 56 [(0, .ref x0), (1, .int x1), (3, .int x3), (4, .int x4)] lv [.int s0, .int s1] m (dc_sub_cons f0 (dc_sub_cons f1 (dc_sub_cons f3 (dc_sub_cons f4 (dc_sub_nil))))) ?_) (Nat.le_succ N)
  unfold d_X10_stuck_b56
  refine dg_s (pc' := 57) [.int (s1 + s0)] rfl (fun _ => rfl) rfl ?_
  refine dg_L (pc' := 58) [(2, .int (s1 + s0)), (0, .ref x0), (1, .int x1), (3, .int x3), (4, .int x4)] [] rfl (fun _ => rfl) rfl ?_
  refine dg_s (pc' := 59) [.int x3] rfl (fun _ => rfl) rfl ?_
  refine dg_s (pc' := 60) [.ref x0, .int x3] rfl (fun _ => rfl) rfl ?_
  refine dg_s (pc' := 62) [.int x4, .ref x0, .int x3] rfl (fun _ => rfl) rfl ?_
  refine dw_b (fun t => Φ t) (pc' := 65) (fun q1 => [.int q1, .int x3]) (fun q1 => m) rfl (fun _ => rfl) (fun q1 => ?_)
  refine dw_g rfl ?_
  refine dg_s (pc' := 66) [.int (x3 ||| q1)] rfl (fun _ => rfl) rfl ?_
  refine dg_L (pc' := 67) [(3, .int (x3 ||| q1)), (2, .int (s1 + s0)), (0, .ref x0), (1, .int x1), (4, .int x4)] [] rfl (fun _ => rfl) rfl ?_
  refine dg_s (pc' := 68) [.ref x0] rfl (fun _ => rfl) rfl ?_
  refine dg_s (pc' := 71) [.ref (x0 + 20)] rfl (fun _ => rfl) rfl ?_
  refine dg_s (pc' := 73) [.int x4, .ref (x0 + 20)] rfl (fun _ => rfl) rfl ?_
  refine dg_s (pc' := 75) [.int x4, .int x4, .ref (x0 + 20)] rfl (fun _ => rfl) rfl ?_
  refine dw_if (fun t => Φ t) (¬ (Int32.toInt x4) = 0) [.int x4, .ref (x0 + 20)] 82 78 rfl (fun _ => rfl) (fun c0 => ?_) (fun c0 => ?_)
  · refine dw_g rfl ?_
    refine dg_s (pc' := 83) [.int (0 : Int32), .int x4, .ref (x0 + 20)] rfl (fun _ => rfl) rfl ?_
    refine dg_m (pc' := 84) (dc_wi m (x0 + 20) (Int32.toNatClampNeg x4) (dc_nar (m.2.2.2 (x0 + 20)).1 (0 : Int32))) [] rfl (fun _ => rfl) rfl ?_
    refine dg_L (pc' := 87) [(4, .int (x4 + (1 : Int32))), (3, .int (x3 ||| q1)), (2, .int (s1 + s0)), (0, .ref x0), (1, .int x1)] [] rfl (fun _ => rfl) rfl ?_
    refine dw_s (pc' := 32) [] rfl (fun _ => rfl) ?_
    exact dw_j rfl (fun lv1 hv => k32 (s1 + s0) (x3 ||| q1) (x4 + (1 : Int32)) (dc_wi m (x0 + 20) (Int32.toNatClampNeg x4) (dc_nar (m.2.2.2 (x0 + 20)).1 (0 : Int32))) lv1 (hv.1 _ rfl) (hv.2.1 _ rfl) (hv.2.2.1 _ rfl) (hv.2.2.2.1 _ rfl) (hv.2.2.2.2.1 _ rfl))
  · refine dw_g rfl ?_
    refine dg_s (pc' := 79) [.int (1 : Int32), .int x4, .ref (x0 + 20)] rfl (fun _ => rfl) rfl ?_
    refine dg_s (pc' := 83) [.int (1 : Int32), .int x4, .ref (x0 + 20)] rfl (fun _ => rfl) rfl ?_
    refine dg_m (pc' := 84) (dc_wi m (x0 + 20) (Int32.toNatClampNeg x4) (dc_nar (m.2.2.2 (x0 + 20)).1 (1 : Int32))) [] rfl (fun _ => rfl) rfl ?_
    refine dg_L (pc' := 87) [(4, .int (x4 + (1 : Int32))), (3, .int (x3 ||| q1)), (2, .int (s1 + s0)), (0, .ref x0), (1, .int x1)] [] rfl (fun _ => rfl) rfl ?_
    refine dw_s (pc' := 32) [] rfl (fun _ => rfl) ?_
    exact dw_j rfl (fun lv1 hv => k32 (s1 + s0) (x3 ||| q1) (x4 + (1 : Int32)) (dc_wi m (x0 + 20) (Int32.toNatClampNeg x4) (dc_nar (m.2.2.2 (x0 + 20)).1 (1 : Int32))) lv1 (hv.1 _ rfl) (hv.2.1 _ rfl) (hv.2.2.1 _ rfl) (hv.2.2.2.1 _ rfl) (hv.2.2.2.2.1 _ rfl))
noncomputable def d_X10_stuck_l32b (x0 : Nat) (x1 : Int32) (x2 : Int32) (x3 : Int32) (x4 : Int32) (m : dc_M) : Option ((Int32 × Int32 × Int32 × dc_M) ⊕ (Int32 × dc_M)) :=
  (if (Int32.toInt (m.1 x0 32)) ≤ (Int32.toInt x4) then ((d_X10_stuck_l93 x0 x1 x2 x3 (1 : Int32) m).map (fun z => Sum.inr (z))) else ((d_X10_readyIn x0 x4 m).bind (fun q1 => (if ¬ (Int32.toInt q1) = 0 then (d_X10_stuck_b56 x0 x1 x3 x4 (0 : Int32) x2 m) else (d_X10_stuck_b56 x0 x1 x3 x4 (1 : Int32) x2 m)))))
noncomputable def d_X10_stuck_l32s (x0 : Nat) (x1 : Int32) : (Int32 × Int32 × Int32 × dc_M) → Option ((Int32 × Int32 × Int32 × dc_M) ⊕ (Int32 × dc_M)) := fun s => d_X10_stuck_l32b x0 x1 s.1 s.2.1 s.2.2.1 s.2.2.2
noncomputable def d_X10_stuck_l32 (x0 : Nat) (x1 : Int32) (x2 : Int32) (x3 : Int32) (x4 : Int32) (m : dc_M) : Option (Int32 × dc_M) := dc_lp (d_X10_stuck_l32s x0 x1) (x2, x3, x4, m)
set_option maxHeartbeats 8000000 in
theorem k_X10_stuck_l32 {u : Nat} {Φ : (Option (Int32 × dc_M)) → Option Value → dc_M → Prop} (x0 : Nat) (x1 : Int32) (kR : ∀ (v : Int32) (m : dc_M), Φ (some ((v, m))) (some (.int v)) m) : ∀ (N : Nat), ∀ (x2 : Int32) (x3 : Int32) (x4 : Int32) (m : dc_M) (lv : ab_L), ab_lk lv 0 = some (.ref x0) → ab_lk lv 1 = some (.int x1) → ab_lk lv 2 = some (.int x2) → ab_lk lv 3 = some (.int x3) → ab_lk lv 4 = some (.int x4) → dc_pv u N ab_M_X10_stuck 32 lv [] m (Φ (d_X10_stuck_l32 x0 x1 x2 x3 x4 m)) := by
  intro N
  induction N with
  | zero => intros; exact dc_pv_zero
  | succ N ih =>
    intro x2 x3 x4 m lv f0 f1 f2 f3 f4
    refine dc_ok (C := C_X10_stuck) (S := S_X10_stuck) CO_X10_stuck 400 32 [(0, .ref x0), (1, .int x1), (2, .int x2), (3, .int x3), (4, .int x4)] lv [] m (dc_sub_cons f0 (dc_sub_cons f1 (dc_sub_cons f2 (dc_sub_cons f3 (dc_sub_cons f4 (dc_sub_nil)))))) ?_
    unfold d_X10_stuck_l32
    rw [dc_lp_eq]
    show (fun t x => dc_lf u N ab_M_X10_stuck (Φ (Option.bind t (dc_bk (d_X10_stuck_l32s x0 x1)))) x) (d_X10_stuck_l32b x0 x1 x2 x3 x4 m) _
    dsimp only
    unfold d_X10_stuck_l32b
    refine dg_s (pc' := 34) [.int x4] rfl (fun _ => rfl) rfl ?_
    refine dg_s (pc' := 35) [.ref x0, .int x4] rfl (fun _ => rfl) rfl ?_
    refine dg_s (pc' := 38) [.int (m.1 x0 32), .int x4] rfl (fun _ => rfl) rfl ?_
    refine dw_if (fun t => Φ (Option.bind t (dc_bk (d_X10_stuck_l32s x0 x1)))) ((Int32.toInt (m.1 x0 32)) ≤ (Int32.toInt x4)) [] 90 41 rfl (fun _ => rfl) (fun c0 => ?_) (fun c0 => ?_)
    · refine dw_g rfl ?_
      refine dg_s (pc' := 91) [.int (1 : Int32)] rfl (fun _ => rfl) rfl ?_
      refine dw_L (pc' := 93) [(4, .int (1 : Int32)), (0, .ref x0), (1, .int x1), (2, .int x2), (3, .int x3)] [] rfl (fun _ => rfl) ?_
      exact dw_j rfl (fun lv1 hv => k_X10_stuck_l93 (Φ := (fun t => Φ (Option.bind (t.map (fun z => Sum.inr (z))) (dc_bk (d_X10_stuck_l32s x0 x1))))) x0 x1 x2 x3 (fun _a _b => kR _a _b) N  (1 : Int32) m lv1 (hv.1 _ rfl) (hv.2.1 _ rfl) (hv.2.2.1 _ rfl) (hv.2.2.2.1 _ rfl) (hv.2.2.2.2.1 _ rfl))
    · refine dw_g rfl ?_
      refine dg_s (pc' := 42) [.int x2] rfl (fun _ => rfl) rfl ?_
      refine dg_s (pc' := 43) [.ref x0, .int x2] rfl (fun _ => rfl) rfl ?_
      refine dg_s (pc' := 45) [.int x4, .ref x0, .int x2] rfl (fun _ => rfl) rfl ?_
      refine dw_b (fun t => Φ (Option.bind t (dc_bk (d_X10_stuck_l32s x0 x1)))) (pc' := 48) (fun q1 => [.int q1, .int x2]) (fun q1 => m) rfl (fun _ => rfl) (fun q1 => ?_)
      refine dw_g rfl ?_
      refine dw_if (fun t => Φ (Option.bind t (dc_bk (d_X10_stuck_l32s x0 x1)))) (¬ (Int32.toInt q1) = 0) [.int x2] 55 51 rfl (fun _ => rfl) (fun c1 => ?_) (fun c1 => ?_)
      · refine dw_g rfl ?_
        refine dw_s (pc' := 56) [.int (0 : Int32), .int x2] rfl (fun _ => rfl) ?_
        exact dw_j rfl (fun lv1 hv => k_X10_stuck_b56 (Φ := (fun t => Φ (Option.bind t (dc_bk (d_X10_stuck_l32s x0 x1))))) x0 x1 x3 x4 (0 : Int32) x2 m (fun _a _b => kR _a _b) ih (hv.1 _ rfl) (hv.2.1 _ rfl) (hv.2.2.1 _ rfl) (hv.2.2.2.1 _ rfl))
      · refine dw_g rfl ?_
        refine dg_s (pc' := 52) [.int (1 : Int32), .int x2] rfl (fun _ => rfl) rfl ?_
        refine dw_s (pc' := 56) [.int (1 : Int32), .int x2] rfl (fun _ => rfl) ?_
        exact dw_j rfl (fun lv1 hv => k_X10_stuck_b56 (Φ := (fun t => Φ (Option.bind t (dc_bk (d_X10_stuck_l32s x0 x1))))) x0 x1 x3 x4 (1 : Int32) x2 m (fun _a _b => kR _a _b) ih (hv.1 _ rfl) (hv.2.1 _ rfl) (hv.2.2.1 _ rfl) (hv.2.2.2.1 _ rfl))
noncomputable def d_X10_stuck (x0 : Nat) (x1 : Int32) (m : dc_M) : Option (Int32 × dc_M) :=
  (if ¬ (Int32.toInt (d_X10_in (Int32.toInt64 x1) (0 : Int64) (2 : Int64) m)) = 0 then ((d_X10_layStates x0 m).bind (fun q1 => (if (Int32.toInt q1.1) = 1 then (d_X10_stuck_l32 x0 x1 (0 : Int32) (0 : Int32) (0 : Int32) q1.2) else some (((-2 : Int32), q1.2))))) else some (((-1 : Int32), m)))
set_option maxHeartbeats 8000000 in
theorem k_X10_stuck {u : Nat} {N : Nat} {Φ : (Option (Int32 × dc_M)) → Option Value → dc_M → Prop} (x0 : Nat) (x1 : Int32) (m : dc_M) (kR : ∀ (v : Int32) (m : dc_M), Φ (some ((v, m))) (some (.int v)) m)  {lv : ab_L} (f0 : ab_lk lv 0 = some (.ref x0)) (f1 : ab_lk lv 1 = some (.int x1)) : dc_pv u N ab_M_X10_stuck 0 lv [] m (Φ (d_X10_stuck x0 x1 m)) := by
  refine dc_pv.mono (dc_ok (C := C_X10_stuck) (S := S_X10_stuck) CO_X10_stuck 400 0 [(0, .ref x0), (1, .int x1)] lv [] m (dc_sub_cons f0 (dc_sub_cons f1 (dc_sub_nil))) ?_) (Nat.le_succ N)
  unfold d_X10_stuck
  refine dg_s (pc' := 1) [.int x1] rfl (fun _ => rfl) rfl ?_
  refine dg_s (pc' := 2) [.long (Int32.toInt64 x1)] rfl (fun _ => rfl) rfl ?_
  refine dg_s (pc' := 3) [.long (0 : Int64), .long (Int32.toInt64 x1)] rfl (fun _ => rfl) rfl ?_
  refine dg_s (pc' := 6) [.long (2 : Int64), .long (0 : Int64), .long (Int32.toInt64 x1)] rfl (fun _ => rfl) rfl ?_
  refine dg_s (pc' := 9) [.int (d_X10_in (Int32.toInt64 x1) (0 : Int64) (2 : Int64) m)] rfl (fun _ => rfl) rfl ?_
  refine dw_if (fun t => Φ t) (¬ (Int32.toInt (d_X10_in (Int32.toInt64 x1) (0 : Int64) (2 : Int64) m)) = 0) [] 14 12 rfl (fun _ => rfl) (fun c0 => ?_) (fun c0 => ?_)
  · refine dw_g rfl ?_
    refine dg_s (pc' := 15) [.ref x0] rfl (fun _ => rfl) rfl ?_
    refine dw_b (fun t => Φ t) (pc' := 18) (fun q1 => [.int q1.1]) (fun q1 => q1.2) rfl (fun _ => rfl) (fun q1 => ?_)
    refine dw_g rfl ?_
    refine dg_s (pc' := 19) [.int (1 : Int32), .int q1.1] rfl (fun _ => rfl) rfl ?_
    refine dw_if (fun t => Φ t) ((Int32.toInt q1.1) = 1) [] 25 22 rfl (fun _ => rfl) (fun c1 => ?_) (fun c1 => ?_)
    · refine dw_g rfl ?_
      refine dg_s (pc' := 26) [.int (0 : Int32)] rfl (fun _ => rfl) rfl ?_
      refine dg_L (pc' := 27) [(2, .int (0 : Int32)), (0, .ref x0), (1, .int x1)] [] rfl (fun _ => rfl) rfl ?_
      refine dg_s (pc' := 28) [.int (0 : Int32)] rfl (fun _ => rfl) rfl ?_
      refine dg_L (pc' := 29) [(3, .int (0 : Int32)), (2, .int (0 : Int32)), (0, .ref x0), (1, .int x1)] [] rfl (fun _ => rfl) rfl ?_
      refine dg_s (pc' := 30) [.int (0 : Int32)] rfl (fun _ => rfl) rfl ?_
      refine dw_L (pc' := 32) [(4, .int (0 : Int32)), (3, .int (0 : Int32)), (2, .int (0 : Int32)), (0, .ref x0), (1, .int x1)] [] rfl (fun _ => rfl) ?_
      exact dw_j rfl (fun lv1 hv => k_X10_stuck_l32 (Φ := (fun t => Φ t)) x0 x1 (fun _a _b => kR _a _b) N  (0 : Int32) (0 : Int32) (0 : Int32) q1.2 lv1 (hv.1 _ rfl) (hv.2.1 _ rfl) (hv.2.2.1 _ rfl) (hv.2.2.2.1 _ rfl) (hv.2.2.2.2.1 _ rfl))
    · refine dw_g rfl ?_
      refine dg_s (pc' := 24) [.int (-2 : Int32)] rfl (fun _ => rfl) rfl ?_
      exact dw_r (some (.inl (some (.int (-2 : Int32)), q1.2))) rfl (fun _ => rfl) (kR _ _)
  · refine dw_g rfl ?_
    refine dg_s (pc' := 13) [.int (-1 : Int32)] rfl (fun _ => rfl) rfl ?_
    exact dw_r (some (.inl (some (.int (-1 : Int32)), m))) rfl (fun _ => rfl) (kR _ _)
noncomputable def H_X10_stuck : dc_H := fun As m k => match As with
  | [.ref x0, .int x1] => (d_X10_stuck x0 x1 m).bind (fun q => k (some (.int q.1)) q.2)
  | _ => dc_kz
theorem H_X10_stuck_ok {u : Nat} : dc_cok u 187 H_X10_stuck := fun M' hG N As m k P hz hP => by
  obtain rfl : ab_M_X10_stuck = M' := Option.some.inj hG
  unfold H_X10_stuck at hP
  split at hP
  · rename_i x0 x1
    exact dc_pv.imp (k_X10_stuck (Φ := fun (t : Option (Int32 × dc_M)) r m' => P (t.bind (fun q => k (some (.int q.1)) q.2)) → P (k r m')) x0 x1 m (fun _ _ h => h) rfl rfl) (fun r m' h => h hP)
  · exact absurd hP hz
noncomputable def C_X10_layAims : List (Nat × dc_H) := [(180, H_X10_aims)]
theorem CO_X10_layAims {u : Nat} : dc_CO u C_X10_layAims := dc_CO_cons H_X10_aims_ok (dc_CO_nil)
def S_X10_layAims : List (Nat × List Nat) := [(12, [0, 1, 2])]
noncomputable def d_X10_layAims_l12b (x0 : Nat) (x1 : Int32) (x2 : Int32) (m : dc_M) : Option ((Int32 × dc_M) ⊕ dc_M) :=
  (if (Int32.toInt (m.1 x0 32)) ≤ (Int32.toInt x2) then some (Sum.inr (m)) else ((d_X10_aims x0 x2 m).bind (fun q1 => (if ¬ (Int32.toInt ((q1 >>> (x1 &&& 31)) &&& (1 : Int32))) = 1 then some (Sum.inl ((x2 + (1 : Int32)), (dc_wl m x0 48 ((m.2.1 x0 48) ||| ((1 : Int64) <<< (Int32.toInt64 (m.1 (x0 + 19) (Int32.toNatClampNeg x2)) &&& 63)))))) else some (Sum.inl ((x2 + (1 : Int32)), (dc_wl m x0 47 ((m.2.1 x0 47) ||| ((1 : Int64) <<< (Int32.toInt64 (m.1 (x0 + 19) (Int32.toNatClampNeg x2)) &&& 63))))))))))
noncomputable def d_X10_layAims_l12s (x0 : Nat) (x1 : Int32) : (Int32 × dc_M) → Option ((Int32 × dc_M) ⊕ dc_M) := fun s => d_X10_layAims_l12b x0 x1 s.1 s.2
noncomputable def d_X10_layAims_l12 (x0 : Nat) (x1 : Int32) (x2 : Int32) (m : dc_M) : Option dc_M := dc_lp (d_X10_layAims_l12s x0 x1) (x2, m)
set_option maxHeartbeats 8000000 in
theorem k_X10_layAims_l12 {u : Nat} {Φ : (Option dc_M) → Option Value → dc_M → Prop} (x0 : Nat) (x1 : Int32) (kR : ∀  (m : dc_M), Φ (some (m)) (none) m) : ∀ (N : Nat), ∀ (x2 : Int32) (m : dc_M) (lv : ab_L), ab_lk lv 0 = some (.ref x0) → ab_lk lv 1 = some (.int x1) → ab_lk lv 2 = some (.int x2) → dc_pv u N ab_M_X10_layAims 12 lv [] m (Φ (d_X10_layAims_l12 x0 x1 x2 m)) := by
  intro N
  induction N with
  | zero => intros; exact dc_pv_zero
  | succ N ih =>
    intro x2 m lv f0 f1 f2
    refine dc_ok (C := C_X10_layAims) (S := S_X10_layAims) CO_X10_layAims 400 12 [(0, .ref x0), (1, .int x1), (2, .int x2)] lv [] m (dc_sub_cons f0 (dc_sub_cons f1 (dc_sub_cons f2 (dc_sub_nil)))) ?_
    unfold d_X10_layAims_l12
    rw [dc_lp_eq]
    show (fun t x => dc_lf u N ab_M_X10_layAims (Φ (Option.bind t (dc_bk (d_X10_layAims_l12s x0 x1)))) x) (d_X10_layAims_l12b x0 x1 x2 m) _
    dsimp only
    unfold d_X10_layAims_l12b
    refine dg_s (pc' := 13) [.int x2] rfl (fun _ => rfl) rfl ?_
    refine dg_s (pc' := 14) [.ref x0, .int x2] rfl (fun _ => rfl) rfl ?_
    refine dg_s (pc' := 17) [.int (m.1 x0 32), .int x2] rfl (fun _ => rfl) rfl ?_
    refine dw_if (fun t => Φ (Option.bind t (dc_bk (d_X10_layAims_l12s x0 x1)))) ((Int32.toInt (m.1 x0 32)) ≤ (Int32.toInt x2)) [] 76 20 rfl (fun _ => rfl) (fun c0 => ?_) (fun c0 => ?_)
    · refine dw_g rfl ?_
      exact dw_r (some (.inl (none, m))) rfl (fun _ => rfl) (kR _)
    · refine dw_g rfl ?_
      refine dg_s (pc' := 21) [.ref x0] rfl (fun _ => rfl) rfl ?_
      refine dg_s (pc' := 22) [.int x2, .ref x0] rfl (fun _ => rfl) rfl ?_
      refine dw_b (fun t => Φ (Option.bind t (dc_bk (d_X10_layAims_l12s x0 x1)))) (pc' := 25) (fun q1 => [.int q1]) (fun q1 => m) rfl (fun _ => rfl) (fun q1 => ?_)
      refine dw_g rfl ?_
      refine dg_s (pc' := 26) [.int x1, .int q1] rfl (fun _ => rfl) rfl ?_
      refine dg_s (pc' := 27) [.int (q1 >>> (x1 &&& 31))] rfl (fun _ => rfl) rfl ?_
      refine dg_s (pc' := 28) [.int (1 : Int32), .int (q1 >>> (x1 &&& 31))] rfl (fun _ => rfl) rfl ?_
      refine dg_s (pc' := 29) [.int ((q1 >>> (x1 &&& 31)) &&& (1 : Int32))] rfl (fun _ => rfl) rfl ?_
      refine dg_s (pc' := 30) [.int (1 : Int32), .int ((q1 >>> (x1 &&& 31)) &&& (1 : Int32))] rfl (fun _ => rfl) rfl ?_
      refine dw_if (fun t => Φ (Option.bind t (dc_bk (d_X10_layAims_l12s x0 x1)))) (¬ (Int32.toInt ((q1 >>> (x1 &&& 31)) &&& (1 : Int32))) = 1) [] 53 33 rfl (fun _ => rfl) (fun c1 => ?_) (fun c1 => ?_)
      · refine dw_g rfl ?_
        refine dg_s (pc' := 54) [.ref x0] rfl (fun _ => rfl) rfl ?_
        refine dg_s (pc' := 55) [.ref x0, .ref x0] rfl (fun _ => rfl) rfl ?_
        refine dg_s (pc' := 58) [.long (m.2.1 x0 48), .ref x0] rfl (fun _ => rfl) rfl ?_
        refine dg_s (pc' := 59) [.long (1 : Int64), .long (m.2.1 x0 48), .ref x0] rfl (fun _ => rfl) rfl ?_
        refine dg_s (pc' := 60) [.ref x0, .long (1 : Int64), .long (m.2.1 x0 48), .ref x0] rfl (fun _ => rfl) rfl ?_
        refine dg_s (pc' := 63) [.ref (x0 + 19), .long (1 : Int64), .long (m.2.1 x0 48), .ref x0] rfl (fun _ => rfl) rfl ?_
        refine dg_s (pc' := 64) [.int x2, .ref (x0 + 19), .long (1 : Int64), .long (m.2.1 x0 48), .ref x0] rfl (fun _ => rfl) rfl ?_
        refine dg_s (pc' := 65) [.int (m.1 (x0 + 19) (Int32.toNatClampNeg x2)), .long (1 : Int64), .long (m.2.1 x0 48), .ref x0] rfl (fun _ => rfl) rfl ?_
        refine dg_s (pc' := 66) [.long ((1 : Int64) <<< (Int32.toInt64 (m.1 (x0 + 19) (Int32.toNatClampNeg x2)) &&& 63)), .long (m.2.1 x0 48), .ref x0] rfl (fun _ => rfl) rfl ?_
        refine dg_s (pc' := 67) [.long ((m.2.1 x0 48) ||| ((1 : Int64) <<< (Int32.toInt64 (m.1 (x0 + 19) (Int32.toNatClampNeg x2)) &&& 63))), .ref x0] rfl (fun _ => rfl) rfl ?_
        refine dg_m (pc' := 70) (dc_wl m x0 48 ((m.2.1 x0 48) ||| ((1 : Int64) <<< (Int32.toInt64 (m.1 (x0 + 19) (Int32.toNatClampNeg x2)) &&& 63)))) [] rfl (fun _ => rfl) rfl ?_
        refine dg_L (pc' := 73) [(2, .int (x2 + (1 : Int32))), (0, .ref x0), (1, .int x1)] [] rfl (fun _ => rfl) rfl ?_
        refine dw_s (pc' := 12) [] rfl (fun _ => rfl) ?_
        exact dw_j rfl (fun lv1 hv => ih (x2 + (1 : Int32)) (dc_wl m x0 48 ((m.2.1 x0 48) ||| ((1 : Int64) <<< (Int32.toInt64 (m.1 (x0 + 19) (Int32.toNatClampNeg x2)) &&& 63)))) lv1 (hv.1 _ rfl) (hv.2.1 _ rfl) (hv.2.2.1 _ rfl))
      · refine dw_g rfl ?_
        refine dg_s (pc' := 34) [.ref x0] rfl (fun _ => rfl) rfl ?_
        refine dg_s (pc' := 35) [.ref x0, .ref x0] rfl (fun _ => rfl) rfl ?_
        refine dg_s (pc' := 38) [.long (m.2.1 x0 47), .ref x0] rfl (fun _ => rfl) rfl ?_
        refine dg_s (pc' := 39) [.long (1 : Int64), .long (m.2.1 x0 47), .ref x0] rfl (fun _ => rfl) rfl ?_
        refine dg_s (pc' := 40) [.ref x0, .long (1 : Int64), .long (m.2.1 x0 47), .ref x0] rfl (fun _ => rfl) rfl ?_
        refine dg_s (pc' := 43) [.ref (x0 + 19), .long (1 : Int64), .long (m.2.1 x0 47), .ref x0] rfl (fun _ => rfl) rfl ?_
        refine dg_s (pc' := 44) [.int x2, .ref (x0 + 19), .long (1 : Int64), .long (m.2.1 x0 47), .ref x0] rfl (fun _ => rfl) rfl ?_
        refine dg_s (pc' := 45) [.int (m.1 (x0 + 19) (Int32.toNatClampNeg x2)), .long (1 : Int64), .long (m.2.1 x0 47), .ref x0] rfl (fun _ => rfl) rfl ?_
        refine dg_s (pc' := 46) [.long ((1 : Int64) <<< (Int32.toInt64 (m.1 (x0 + 19) (Int32.toNatClampNeg x2)) &&& 63)), .long (m.2.1 x0 47), .ref x0] rfl (fun _ => rfl) rfl ?_
        refine dg_s (pc' := 47) [.long ((m.2.1 x0 47) ||| ((1 : Int64) <<< (Int32.toInt64 (m.1 (x0 + 19) (Int32.toNatClampNeg x2)) &&& 63))), .ref x0] rfl (fun _ => rfl) rfl ?_
        refine dg_m (pc' := 50) (dc_wl m x0 47 ((m.2.1 x0 47) ||| ((1 : Int64) <<< (Int32.toInt64 (m.1 (x0 + 19) (Int32.toNatClampNeg x2)) &&& 63)))) [] rfl (fun _ => rfl) rfl ?_
        refine dg_s (pc' := 70) [] rfl (fun _ => rfl) rfl ?_
        refine dg_L (pc' := 73) [(2, .int (x2 + (1 : Int32))), (0, .ref x0), (1, .int x1)] [] rfl (fun _ => rfl) rfl ?_
        refine dw_s (pc' := 12) [] rfl (fun _ => rfl) ?_
        exact dw_j rfl (fun lv1 hv => ih (x2 + (1 : Int32)) (dc_wl m x0 47 ((m.2.1 x0 47) ||| ((1 : Int64) <<< (Int32.toInt64 (m.1 (x0 + 19) (Int32.toNatClampNeg x2)) &&& 63)))) lv1 (hv.1 _ rfl) (hv.2.1 _ rfl) (hv.2.2.1 _ rfl))
noncomputable def d_X10_layAims (x0 : Nat) (x1 : Int32) (m : dc_M) : Option dc_M :=
  (d_X10_layAims_l12 x0 x1 (0 : Int32) (dc_wl (dc_wl m x0 47 (0 : Int64)) x0 48 (0 : Int64)))
set_option maxHeartbeats 8000000 in
theorem k_X10_layAims {u : Nat} {N : Nat} {Φ : (Option dc_M) → Option Value → dc_M → Prop} (x0 : Nat) (x1 : Int32) (m : dc_M) (kR : ∀  (m : dc_M), Φ (some (m)) (none) m)  {lv : ab_L} (f0 : ab_lk lv 0 = some (.ref x0)) (f1 : ab_lk lv 1 = some (.int x1)) : dc_pv u N ab_M_X10_layAims 0 lv [] m (Φ (d_X10_layAims x0 x1 m)) := by
  refine dc_pv.mono (dc_ok (C := C_X10_layAims) (S := S_X10_layAims) CO_X10_layAims 400 0 [(0, .ref x0), (1, .int x1)] lv [] m (dc_sub_cons f0 (dc_sub_cons f1 (dc_sub_nil))) ?_) (Nat.le_succ N)
  unfold d_X10_layAims
  refine dg_s (pc' := 1) [.ref x0] rfl (fun _ => rfl) rfl ?_
  refine dg_s (pc' := 2) [.long (0 : Int64), .ref x0] rfl (fun _ => rfl) rfl ?_
  refine dg_m (pc' := 5) (dc_wl m x0 47 (0 : Int64)) [] rfl (fun _ => rfl) rfl ?_
  refine dg_s (pc' := 6) [.ref x0] rfl (fun _ => rfl) rfl ?_
  refine dg_s (pc' := 7) [.long (0 : Int64), .ref x0] rfl (fun _ => rfl) rfl ?_
  refine dg_m (pc' := 10) (dc_wl (dc_wl m x0 47 (0 : Int64)) x0 48 (0 : Int64)) [] rfl (fun _ => rfl) rfl ?_
  refine dg_s (pc' := 11) [.int (0 : Int32)] rfl (fun _ => rfl) rfl ?_
  refine dw_L (pc' := 12) [(2, .int (0 : Int32)), (0, .ref x0), (1, .int x1)] [] rfl (fun _ => rfl) ?_
  exact dw_j rfl (fun lv1 hv => k_X10_layAims_l12 (Φ := (fun t => Φ t)) x0 x1 (fun _b => kR _b) N  (0 : Int32) (dc_wl (dc_wl m x0 47 (0 : Int64)) x0 48 (0 : Int64)) lv1 (hv.1 _ rfl) (hv.2.1 _ rfl) (hv.2.2.1 _ rfl))
noncomputable def H_X10_layAims : dc_H := fun As m k => match As with
  | [.ref x0, .int x1] => (d_X10_layAims x0 x1 m).bind (fun q => k (none) q)
  | _ => dc_kz
theorem H_X10_layAims_ok {u : Nat} : dc_cok u 188 H_X10_layAims := fun M' hG N As m k P hz hP => by
  obtain rfl : ab_M_X10_layAims = M' := Option.some.inj hG
  unfold H_X10_layAims at hP
  split at hP
  · rename_i x0 x1
    exact dc_pv.imp (k_X10_layAims (Φ := fun (t : Option dc_M) r m' => P (t.bind (fun q => k (none) q)) → P (k r m')) x0 x1 m (fun _ h => h) rfl rfl) (fun r m' h => h hP)
  · exact absurd hP hz
noncomputable def C_X10_aim : List (Nat × dc_H) := [(146, H_X10_in), (162, H_X10_isWire), (188, H_X10_layAims), (175, H_X10_layRight)]
theorem CO_X10_aim {u : Nat} : dc_CO u C_X10_aim := dc_CO_cons H_X10_in_ok (dc_CO_cons H_X10_isWire_ok (dc_CO_cons H_X10_layAims_ok (dc_CO_cons H_X10_layRight_ok (dc_CO_nil))))
def S_X10_aim : List (Nat × List Nat) := [(61, [0, 2]), (80, [3]), (96, [3, 4])]
noncomputable def d_X10_aim_b96 (x3 : Int32) (x4 : Int32) (m : dc_M) : Option (Int32 × dc_M) :=
  (if (Int32.toInt x3) = 0 then (if (Int32.toInt x4) = 0 then some (((-4 : Int32), m)) else some (((0 : Int32), m))) else some (((1 : Int32), m)))
set_option maxHeartbeats 8000000 in
theorem k_X10_aim_b96 {u : Nat} {N : Nat} {Φ : (Option (Int32 × dc_M)) → Option Value → dc_M → Prop} (x3 : Int32) (x4 : Int32) (m : dc_M) (kR : ∀ (v : Int32) (m : dc_M), Φ (some ((v, m))) (some (.int v)) m)  {lv : ab_L} (f3 : ab_lk lv 3 = some (.int x3)) (f4 : ab_lk lv 4 = some (.int x4)) : dc_pv u N ab_M_X10_aim 96 lv [] m (Φ (d_X10_aim_b96 x3 x4 m)) := by
  refine dc_pv.mono (dc_ok (C := C_X10_aim) (S := S_X10_aim) CO_X10_aim 400 96 [(3, .int x3), (4, .int x4)] lv [] m (dc_sub_cons f3 (dc_sub_cons f4 (dc_sub_nil))) ?_) (Nat.le_succ N)
  unfold d_X10_aim_b96
  refine dg_s (pc' := 97) [.int x3] rfl (fun _ => rfl) rfl ?_
  refine dw_if (fun t => Φ t) ((Int32.toInt x3) = 0) [] 104 100 rfl (fun _ => rfl) (fun c0 => ?_) (fun c0 => ?_)
  · refine dw_g rfl ?_
    refine dg_s (pc' := 106) [.int x4] rfl (fun _ => rfl) rfl ?_
    refine dw_if (fun t => Φ t) ((Int32.toInt x4) = 0) [] 113 109 rfl (fun _ => rfl) (fun c1 => ?_) (fun c1 => ?_)
    · refine dw_g rfl ?_
      refine dg_s (pc' := 115) [.int (-4 : Int32)] rfl (fun _ => rfl) rfl ?_
      exact dw_r (some (.inl (some (.int (-4 : Int32)), m))) rfl (fun _ => rfl) (kR _ _)
    · refine dw_g rfl ?_
      refine dg_s (pc' := 110) [.int (0 : Int32)] rfl (fun _ => rfl) rfl ?_
      refine dg_s (pc' := 115) [.int (0 : Int32)] rfl (fun _ => rfl) rfl ?_
      exact dw_r (some (.inl (some (.int (0 : Int32)), m))) rfl (fun _ => rfl) (kR _ _)
  · refine dw_g rfl ?_
    refine dg_s (pc' := 101) [.int (1 : Int32)] rfl (fun _ => rfl) rfl ?_
    refine dg_s (pc' := 115) [.int (1 : Int32)] rfl (fun _ => rfl) rfl ?_
    exact dw_r (some (.inl (some (.int (1 : Int32)), m))) rfl (fun _ => rfl) (kR _ _)
noncomputable def d_X10_aim_b80 (x3 : Int32) (s0 : Int32) (m : dc_M) : Option (Int32 × dc_M) :=
  (if (Int32.toInt x3) = 0 then (d_X10_aim_b96 x3 s0 m) else (if (Int32.toInt s0) = 0 then (d_X10_aim_b96 x3 s0 m) else some (((-5 : Int32), m))))
set_option maxHeartbeats 8000000 in
theorem k_X10_aim_b80 {u : Nat} {N : Nat} {Φ : (Option (Int32 × dc_M)) → Option Value → dc_M → Prop} (x3 : Int32) (s0 : Int32) (m : dc_M) (kR : ∀ (v : Int32) (m : dc_M), Φ (some ((v, m))) (some (.int v)) m)  {lv : ab_L} (f3 : ab_lk lv 3 = some (.int x3)) : dc_pv u N ab_M_X10_aim 80 lv [.int s0] m (Φ (d_X10_aim_b80 x3 s0 m)) := by
  refine dc_pv.mono (dc_ok (C := C_X10_aim) (S := S_X10_aim) CO_X10_aim 400 80 [(3, .int x3)] lv [.int s0] m (dc_sub_cons f3 (dc_sub_nil)) ?_) (Nat.le_succ N)
  unfold d_X10_aim_b80
  refine dg_L (pc' := 82) [(4, .int s0), (3, .int x3)] [] rfl (fun _ => rfl) rfl ?_
  refine dg_s (pc' := 83) [.int x3] rfl (fun _ => rfl) rfl ?_
  refine dw_if (fun t => Φ t) ((Int32.toInt x3) = 0) [] 96 86 rfl (fun _ => rfl) (fun c0 => ?_) (fun c0 => ?_)
  · exact dw_j rfl (fun lv1 hv => k_X10_aim_b96 (Φ := (fun t => Φ t)) x3 s0 m (fun _a _b => kR _a _b)  (hv.1 _ rfl) (hv.2.1 _ rfl))
  · refine dw_g rfl ?_
    refine dg_s (pc' := 88) [.int s0] rfl (fun _ => rfl) rfl ?_
    refine dw_if (fun t => Φ t) ((Int32.toInt s0) = 0) [] 96 91 rfl (fun _ => rfl) (fun c1 => ?_) (fun c1 => ?_)
    · exact dw_j rfl (fun lv1 hv => k_X10_aim_b96 (Φ := (fun t => Φ t)) x3 s0 m (fun _a _b => kR _a _b)  (hv.1 _ rfl) (hv.2.1 _ rfl))
    · refine dw_g rfl ?_
      refine dg_s (pc' := 93) [.int (-5 : Int32)] rfl (fun _ => rfl) rfl ?_
      refine dg_s (pc' := 115) [.int (-5 : Int32)] rfl (fun _ => rfl) rfl ?_
      exact dw_r (some (.inl (some (.int (-5 : Int32)), m))) rfl (fun _ => rfl) (kR _ _)
noncomputable def d_X10_aim_b61 (x0 : Nat) (x2 : Int32) (s0 : Int32) (m : dc_M) : Option (Int32 × dc_M) :=
  (if ¬ (Int32.toInt (lg_cmp (((m.2.1 x0 48) >>> (Int32.toInt64 x2 &&& 63)) &&& (1 : Int64)) (1 : Int64))) = 0 then (d_X10_aim_b80 s0 (0 : Int32) m) else (d_X10_aim_b80 s0 (1 : Int32) m))
set_option maxHeartbeats 8000000 in
theorem k_X10_aim_b61 {u : Nat} {N : Nat} {Φ : (Option (Int32 × dc_M)) → Option Value → dc_M → Prop} (x0 : Nat) (x2 : Int32) (s0 : Int32) (m : dc_M) (kR : ∀ (v : Int32) (m : dc_M), Φ (some ((v, m))) (some (.int v)) m)  {lv : ab_L} (f0 : ab_lk lv 0 = some (.ref x0)) (f2 : ab_lk lv 2 = some (.int x2)) : dc_pv u N ab_M_X10_aim 61 lv [.int s0] m (Φ (d_X10_aim_b61 x0 x2 s0 m)) := by
  refine dc_pv.mono (dc_ok (C := C_X10_aim) (S := S_X10_aim) CO_X10_aim 400 61 [(0, .ref x0), (2, .int x2)] lv [.int s0] m (dc_sub_cons f0 (dc_sub_cons f2 (dc_sub_nil))) ?_) (Nat.le_succ N)
  unfold d_X10_aim_b61
  refine dg_L (pc' := 62) [(3, .int s0), (0, .ref x0), (2, .int x2)] [] rfl (fun _ => rfl) rfl ?_
  refine dg_s (pc' := 63) [.ref x0] rfl (fun _ => rfl) rfl ?_
  refine dg_s (pc' := 66) [.long (m.2.1 x0 48)] rfl (fun _ => rfl) rfl ?_
  refine dg_s (pc' := 67) [.int x2, .long (m.2.1 x0 48)] rfl (fun _ => rfl) rfl ?_
  refine dg_s (pc' := 68) [.long ((m.2.1 x0 48) >>> (Int32.toInt64 x2 &&& 63))] rfl (fun _ => rfl) rfl ?_
  refine dg_s (pc' := 69) [.long (1 : Int64), .long ((m.2.1 x0 48) >>> (Int32.toInt64 x2 &&& 63))] rfl (fun _ => rfl) rfl ?_
  refine dg_s (pc' := 70) [.long (((m.2.1 x0 48) >>> (Int32.toInt64 x2 &&& 63)) &&& (1 : Int64))] rfl (fun _ => rfl) rfl ?_
  refine dg_s (pc' := 71) [.long (1 : Int64), .long (((m.2.1 x0 48) >>> (Int32.toInt64 x2 &&& 63)) &&& (1 : Int64))] rfl (fun _ => rfl) rfl ?_
  refine dg_s (pc' := 72) [.int (lg_cmp (((m.2.1 x0 48) >>> (Int32.toInt64 x2 &&& 63)) &&& (1 : Int64)) (1 : Int64))] rfl (fun _ => rfl) rfl ?_
  refine dw_if (fun t => Φ t) (¬ (Int32.toInt (lg_cmp (((m.2.1 x0 48) >>> (Int32.toInt64 x2 &&& 63)) &&& (1 : Int64)) (1 : Int64))) = 0) [] 79 75 rfl (fun _ => rfl) (fun c0 => ?_) (fun c0 => ?_)
  · refine dw_g rfl ?_
    refine dw_s (pc' := 80) [.int (0 : Int32)] rfl (fun _ => rfl) ?_
    exact dw_j rfl (fun lv1 hv => k_X10_aim_b80 (Φ := (fun t => Φ t)) s0 (0 : Int32) m (fun _a _b => kR _a _b)  (hv.1 _ rfl))
  · refine dw_g rfl ?_
    refine dg_s (pc' := 76) [.int (1 : Int32)] rfl (fun _ => rfl) rfl ?_
    refine dw_s (pc' := 80) [.int (1 : Int32)] rfl (fun _ => rfl) ?_
    exact dw_j rfl (fun lv1 hv => k_X10_aim_b80 (Φ := (fun t => Φ t)) s0 (1 : Int32) m (fun _a _b => kR _a _b)  (hv.1 _ rfl))
noncomputable def d_X10_aim (x0 : Nat) (x1 : Int32) (x2 : Int32) (m : dc_M) : Option (Int32 × dc_M) :=
  (if (Int32.toInt (d_X10_isWire x0 x1 m)) = 0 then some (((-1 : Int32), m)) else (if ¬ (Int32.toInt (d_X10_in (Int32.toInt64 x2) (0 : Int64) (Int32.toInt64 (((1 : Int32) <<< ((m.1 x0 0) &&& 31)) - (1 : Int32))) m)) = 0 then ((d_X10_layRight x0 m).bind (fun q1 => (if ¬ (Int32.toInt q1.1) = 0 then ((d_X10_layAims x0 x1 q1.2).bind (fun q2 => (if ¬ (Int32.toInt (lg_cmp (((q2.2.1 x0 47) >>> (Int32.toInt64 x2 &&& 63)) &&& (1 : Int64)) (1 : Int64))) = 0 then (d_X10_aim_b61 x0 x2 (0 : Int32) q2) else (d_X10_aim_b61 x0 x2 (1 : Int32) q2)))) else some (((-2 : Int32), q1.2))))) else some (((-1 : Int32), m))))
set_option maxHeartbeats 8000000 in
theorem k_X10_aim {u : Nat} {N : Nat} {Φ : (Option (Int32 × dc_M)) → Option Value → dc_M → Prop} (x0 : Nat) (x1 : Int32) (x2 : Int32) (m : dc_M) (kR : ∀ (v : Int32) (m : dc_M), Φ (some ((v, m))) (some (.int v)) m)  {lv : ab_L} (f0 : ab_lk lv 0 = some (.ref x0)) (f1 : ab_lk lv 1 = some (.int x1)) (f2 : ab_lk lv 2 = some (.int x2)) : dc_pv u N ab_M_X10_aim 0 lv [] m (Φ (d_X10_aim x0 x1 x2 m)) := by
  refine dc_pv.mono (dc_ok (C := C_X10_aim) (S := S_X10_aim) CO_X10_aim 400 0 [(0, .ref x0), (1, .int x1), (2, .int x2)] lv [] m (dc_sub_cons f0 (dc_sub_cons f1 (dc_sub_cons f2 (dc_sub_nil)))) ?_) (Nat.le_succ N)
  unfold d_X10_aim
  refine dg_s (pc' := 1) [.ref x0] rfl (fun _ => rfl) rfl ?_
  refine dg_s (pc' := 2) [.int x1, .ref x0] rfl (fun _ => rfl) rfl ?_
  refine dg_s (pc' := 5) [.int (d_X10_isWire x0 x1 m)] rfl (fun _ => rfl) rfl ?_
  refine dw_if (fun t => Φ t) ((Int32.toInt (d_X10_isWire x0 x1 m)) = 0) [] 26 8 rfl (fun _ => rfl) (fun c0 => ?_) (fun c0 => ?_)
  · refine dw_g rfl ?_
    refine dg_s (pc' := 27) [.int (-1 : Int32)] rfl (fun _ => rfl) rfl ?_
    exact dw_r (some (.inl (some (.int (-1 : Int32)), m))) rfl (fun _ => rfl) (kR _ _)
  · refine dw_g rfl ?_
    refine dg_s (pc' := 9) [.int x2] rfl (fun _ => rfl) rfl ?_
    refine dg_s (pc' := 10) [.long (Int32.toInt64 x2)] rfl (fun _ => rfl) rfl ?_
    refine dg_s (pc' := 11) [.long (0 : Int64), .long (Int32.toInt64 x2)] rfl (fun _ => rfl) rfl ?_
    refine dg_s (pc' := 12) [.int (1 : Int32), .long (0 : Int64), .long (Int32.toInt64 x2)] rfl (fun _ => rfl) rfl ?_
    refine dg_s (pc' := 13) [.ref x0, .int (1 : Int32), .long (0 : Int64), .long (Int32.toInt64 x2)] rfl (fun _ => rfl) rfl ?_
    refine dg_s (pc' := 16) [.int (m.1 x0 0), .int (1 : Int32), .long (0 : Int64), .long (Int32.toInt64 x2)] rfl (fun _ => rfl) rfl ?_
    refine dg_s (pc' := 17) [.int ((1 : Int32) <<< ((m.1 x0 0) &&& 31)), .long (0 : Int64), .long (Int32.toInt64 x2)] rfl (fun _ => rfl) rfl ?_
    refine dg_s (pc' := 18) [.int (1 : Int32), .int ((1 : Int32) <<< ((m.1 x0 0) &&& 31)), .long (0 : Int64), .long (Int32.toInt64 x2)] rfl (fun _ => rfl) rfl ?_
    refine dg_s (pc' := 19) [.int (((1 : Int32) <<< ((m.1 x0 0) &&& 31)) - (1 : Int32)), .long (0 : Int64), .long (Int32.toInt64 x2)] rfl (fun _ => rfl) rfl ?_
    refine dg_s (pc' := 20) [.long (Int32.toInt64 (((1 : Int32) <<< ((m.1 x0 0) &&& 31)) - (1 : Int32))), .long (0 : Int64), .long (Int32.toInt64 x2)] rfl (fun _ => rfl) rfl ?_
    refine dg_s (pc' := 23) [.int (d_X10_in (Int32.toInt64 x2) (0 : Int64) (Int32.toInt64 (((1 : Int32) <<< ((m.1 x0 0) &&& 31)) - (1 : Int32))) m)] rfl (fun _ => rfl) rfl ?_
    refine dw_if (fun t => Φ t) (¬ (Int32.toInt (d_X10_in (Int32.toInt64 x2) (0 : Int64) (Int32.toInt64 (((1 : Int32) <<< ((m.1 x0 0) &&& 31)) - (1 : Int32))) m)) = 0) [] 28 26 rfl (fun _ => rfl) (fun c1 => ?_) (fun c1 => ?_)
    · refine dw_g rfl ?_
      refine dg_s (pc' := 29) [.ref x0] rfl (fun _ => rfl) rfl ?_
      refine dw_b (fun t => Φ t) (pc' := 32) (fun q1 => [.int q1.1]) (fun q1 => q1.2) rfl (fun _ => rfl) (fun q1 => ?_)
      refine dw_g rfl ?_
      refine dw_if (fun t => Φ t) (¬ (Int32.toInt q1.1) = 0) [] 38 35 rfl (fun _ => rfl) (fun c2 => ?_) (fun c2 => ?_)
      · refine dw_g rfl ?_
        refine dg_s (pc' := 39) [.ref x0] rfl (fun _ => rfl) rfl ?_
        refine dg_s (pc' := 40) [.int x1, .ref x0] rfl (fun _ => rfl) rfl ?_
        refine dw_b (fun t => Φ t) (pc' := 43) (fun q2 => []) (fun q2 => q2) rfl (fun _ => rfl) (fun q2 => ?_)
        refine dw_g rfl ?_
        refine dg_s (pc' := 44) [.ref x0] rfl (fun _ => rfl) rfl ?_
        refine dg_s (pc' := 47) [.long (q2.2.1 x0 47)] rfl (fun _ => rfl) rfl ?_
        refine dg_s (pc' := 48) [.int x2, .long (q2.2.1 x0 47)] rfl (fun _ => rfl) rfl ?_
        refine dg_s (pc' := 49) [.long ((q2.2.1 x0 47) >>> (Int32.toInt64 x2 &&& 63))] rfl (fun _ => rfl) rfl ?_
        refine dg_s (pc' := 50) [.long (1 : Int64), .long ((q2.2.1 x0 47) >>> (Int32.toInt64 x2 &&& 63))] rfl (fun _ => rfl) rfl ?_
        refine dg_s (pc' := 51) [.long (((q2.2.1 x0 47) >>> (Int32.toInt64 x2 &&& 63)) &&& (1 : Int64))] rfl (fun _ => rfl) rfl ?_
        refine dg_s (pc' := 52) [.long (1 : Int64), .long (((q2.2.1 x0 47) >>> (Int32.toInt64 x2 &&& 63)) &&& (1 : Int64))] rfl (fun _ => rfl) rfl ?_
        refine dg_s (pc' := 53) [.int (lg_cmp (((q2.2.1 x0 47) >>> (Int32.toInt64 x2 &&& 63)) &&& (1 : Int64)) (1 : Int64))] rfl (fun _ => rfl) rfl ?_
        refine dw_if (fun t => Φ t) (¬ (Int32.toInt (lg_cmp (((q2.2.1 x0 47) >>> (Int32.toInt64 x2 &&& 63)) &&& (1 : Int64)) (1 : Int64))) = 0) [] 60 56 rfl (fun _ => rfl) (fun c3 => ?_) (fun c3 => ?_)
        · refine dw_g rfl ?_
          refine dw_s (pc' := 61) [.int (0 : Int32)] rfl (fun _ => rfl) ?_
          exact dw_j rfl (fun lv1 hv => k_X10_aim_b61 (Φ := (fun t => Φ t)) x0 x2 (0 : Int32) q2 (fun _a _b => kR _a _b)  (hv.1 _ rfl) (hv.2.1 _ rfl))
        · refine dw_g rfl ?_
          refine dg_s (pc' := 57) [.int (1 : Int32)] rfl (fun _ => rfl) rfl ?_
          refine dw_s (pc' := 61) [.int (1 : Int32)] rfl (fun _ => rfl) ?_
          exact dw_j rfl (fun lv1 hv => k_X10_aim_b61 (Φ := (fun t => Φ t)) x0 x2 (1 : Int32) q2 (fun _a _b => kR _a _b)  (hv.1 _ rfl) (hv.2.1 _ rfl))
      · refine dw_g rfl ?_
        refine dg_s (pc' := 37) [.int (-2 : Int32)] rfl (fun _ => rfl) rfl ?_
        exact dw_r (some (.inl (some (.int (-2 : Int32)), q1.2))) rfl (fun _ => rfl) (kR _ _)
    · refine dw_g rfl ?_
      refine dg_s (pc' := 27) [.int (-1 : Int32)] rfl (fun _ => rfl) rfl ?_
      exact dw_r (some (.inl (some (.int (-1 : Int32)), m))) rfl (fun _ => rfl) (kR _ _)
noncomputable def H_X10_aim : dc_H := fun As m k => match As with
  | [.ref x0, .int x1, .int x2] => (d_X10_aim x0 x1 x2 m).bind (fun q => k (some (.int q.1)) q.2)
  | _ => dc_kz
theorem H_X10_aim_ok {u : Nat} : dc_cok u 189 H_X10_aim := fun M' hG N As m k P hz hP => by
  obtain rfl : ab_M_X10_aim = M' := Option.some.inj hG
  unfold H_X10_aim at hP
  split at hP
  · rename_i x0 x1 x2
    exact dc_pv.imp (k_X10_aim (Φ := fun (t : Option (Int32 × dc_M)) r m' => P (t.bind (fun q => k (some (.int q.1)) q.2)) → P (k r m')) x0 x1 x2 m (fun _ _ h => h) rfl rfl rfl) (fun r m' h => h hP)
  · exact absurd hP hz
def C_X10_cubeAll : List (Nat × dc_H) := []
theorem CO_X10_cubeAll {u : Nat} : dc_CO u C_X10_cubeAll := dc_CO_nil
def S_X10_cubeAll : List (Nat × List Nat) := [(4, [0, 1, 2])]
noncomputable def d_X10_cubeAll_l4b (x0 : Nat) (x1 : Int32) (x2 : Int32) (m : dc_M) : Option ((Int32 × Int32) ⊕ Int32) :=
  (if (Int32.toInt (m.1 x0 0)) ≤ (Int32.toInt x2) then some (Sum.inr (x1)) else some (Sum.inl ((x1 * (3 : Int32)), (x2 + (1 : Int32)))))
noncomputable def d_X10_cubeAll_l4s (x0 : Nat) (m : dc_M) : (Int32 × Int32) → Option ((Int32 × Int32) ⊕ Int32) := fun s => d_X10_cubeAll_l4b x0 s.1 s.2 m
noncomputable def d_X10_cubeAll_l4 (x0 : Nat) (x1 : Int32) (x2 : Int32) (m : dc_M) : Option Int32 := dc_lp (d_X10_cubeAll_l4s x0 m) (x1, x2)
set_option maxHeartbeats 8000000 in
theorem k_X10_cubeAll_l4 {u : Nat} {Φ : (Option Int32) → Option Value → dc_M → Prop} (x0 : Nat) (m : dc_M) (kR : ∀ (v : Int32), Φ (some (v)) (some (.int v)) m) : ∀ (N : Nat), ∀ (x1 : Int32) (x2 : Int32) (lv : ab_L), ab_lk lv 0 = some (.ref x0) → ab_lk lv 1 = some (.int x1) → ab_lk lv 2 = some (.int x2) → dc_pv u N ab_M_X10_cubeAll 4 lv [] m (Φ (d_X10_cubeAll_l4 x0 x1 x2 m)) := by
  intro N
  induction N with
  | zero => intros; exact dc_pv_zero
  | succ N ih =>
    intro x1 x2 lv f0 f1 f2
    refine dc_ok (C := C_X10_cubeAll) (S := S_X10_cubeAll) CO_X10_cubeAll 400 4 [(0, .ref x0), (1, .int x1), (2, .int x2)] lv [] m (dc_sub_cons f0 (dc_sub_cons f1 (dc_sub_cons f2 (dc_sub_nil)))) ?_
    unfold d_X10_cubeAll_l4
    rw [dc_lp_eq]
    show (fun t x => dc_lf u N ab_M_X10_cubeAll (Φ (Option.bind t (dc_bk (d_X10_cubeAll_l4s x0 m)))) x) (d_X10_cubeAll_l4b x0 x1 x2 m) _
    dsimp only
    unfold d_X10_cubeAll_l4b
    refine dg_s (pc' := 5) [.int x2] rfl (fun _ => rfl) rfl ?_
    refine dg_s (pc' := 6) [.ref x0, .int x2] rfl (fun _ => rfl) rfl ?_
    refine dg_s (pc' := 9) [.int (m.1 x0 0), .int x2] rfl (fun _ => rfl) rfl ?_
    refine dw_if (fun t => Φ (Option.bind t (dc_bk (d_X10_cubeAll_l4s x0 m)))) ((Int32.toInt (m.1 x0 0)) ≤ (Int32.toInt x2)) [] 22 12 rfl (fun _ => rfl) (fun c0 => ?_) (fun c0 => ?_)
    · refine dw_g rfl ?_
      refine dg_s (pc' := 23) [.int x1] rfl (fun _ => rfl) rfl ?_
      exact dw_r (some (.inl (some (.int x1), m))) rfl (fun _ => rfl) (kR _)
    · refine dw_g rfl ?_
      refine dg_s (pc' := 13) [.int x1] rfl (fun _ => rfl) rfl ?_
      refine dg_s (pc' := 14) [.int (3 : Int32), .int x1] rfl (fun _ => rfl) rfl ?_
      refine dg_s (pc' := 15) [.int (x1 * (3 : Int32))] rfl (fun _ => rfl) rfl ?_
      refine dg_L (pc' := 16) [(1, .int (x1 * (3 : Int32))), (0, .ref x0), (2, .int x2)] [] rfl (fun _ => rfl) rfl ?_
      refine dg_L (pc' := 19) [(2, .int (x2 + (1 : Int32))), (1, .int (x1 * (3 : Int32))), (0, .ref x0)] [] rfl (fun _ => rfl) rfl ?_
      refine dw_s (pc' := 4) [] rfl (fun _ => rfl) ?_
      exact dw_j rfl (fun lv1 hv => ih (x1 * (3 : Int32)) (x2 + (1 : Int32)) lv1 (hv.1 _ rfl) (hv.2.1 _ rfl) (hv.2.2.1 _ rfl))
noncomputable def d_X10_cubeAll (x0 : Nat) (m : dc_M) : Option Int32 :=
  (d_X10_cubeAll_l4 x0 (1 : Int32) (0 : Int32) m)
set_option maxHeartbeats 8000000 in
theorem k_X10_cubeAll {u : Nat} {N : Nat} {Φ : (Option Int32) → Option Value → dc_M → Prop} (x0 : Nat) (m : dc_M) (kR : ∀ (v : Int32), Φ (some (v)) (some (.int v)) m)  {lv : ab_L} (f0 : ab_lk lv 0 = some (.ref x0)) : dc_pv u N ab_M_X10_cubeAll 0 lv [] m (Φ (d_X10_cubeAll x0 m)) := by
  refine dc_pv.mono (dc_ok (C := C_X10_cubeAll) (S := S_X10_cubeAll) CO_X10_cubeAll 400 0 [(0, .ref x0)] lv [] m (dc_sub_cons f0 (dc_sub_nil)) ?_) (Nat.le_succ N)
  unfold d_X10_cubeAll
  refine dg_s (pc' := 1) [.int (1 : Int32)] rfl (fun _ => rfl) rfl ?_
  refine dg_L (pc' := 2) [(1, .int (1 : Int32)), (0, .ref x0)] [] rfl (fun _ => rfl) rfl ?_
  refine dg_s (pc' := 3) [.int (0 : Int32)] rfl (fun _ => rfl) rfl ?_
  refine dw_L (pc' := 4) [(2, .int (0 : Int32)), (1, .int (1 : Int32)), (0, .ref x0)] [] rfl (fun _ => rfl) ?_
  exact dw_j rfl (fun lv1 hv => k_X10_cubeAll_l4 (Φ := (fun t => Φ t)) x0 m (fun _a  => kR _a) N  (1 : Int32) (0 : Int32) lv1 (hv.1 _ rfl) (hv.2.1 _ rfl) (hv.2.2.1 _ rfl))
noncomputable def H_X10_cubeAll : dc_H := fun As m k => match As with
  | [.ref x0] => (d_X10_cubeAll x0 m).bind (fun q => k (some (.int q)) m)
  | _ => dc_kz
theorem H_X10_cubeAll_ok {u : Nat} : dc_cok u 190 H_X10_cubeAll := fun M' hG N As m k P hz hP => by
  obtain rfl : ab_M_X10_cubeAll = M' := Option.some.inj hG
  unfold H_X10_cubeAll at hP
  split at hP
  · rename_i x0
    exact dc_pv.imp (k_X10_cubeAll (Φ := fun (t : Option Int32) r m' => P (t.bind (fun q => k (some (.int q)) m)) → P (k r m')) x0 m (fun _  h => h) rfl) (fun r m' h => h hP)
  · exact absurd hP hz
def C_X10_levelsOf : List (Nat × dc_H) := []
theorem CO_X10_levelsOf {u : Nat} : dc_CO u C_X10_levelsOf := dc_CO_nil
def S_X10_levelsOf : List (Nat × List Nat) := [(5, [0, 1, 2, 4]), (25, [0, 1, 2, 4, 5, 6, 7]), (82, [0, 1, 2, 4, 6])]
noncomputable def d_X10_levelsOf_b82 (x0 : Nat) (x1 : Int32) (x2 : Int64) (x4 : Int32) (x6 : Int32) (m : dc_M) : Option ((Int64 × Int32) ⊕ Int64) :=
  (if (Int32.toInt x6) = 0 then some (Sum.inl ((x2 ||| (0 : Int64)), (x4 + (1 : Int32)))) else some (Sum.inl ((x2 ||| ((1 : Int64) <<< (Int32.toInt64 x4 &&& 63))), (x4 + (1 : Int32)))))
set_option maxHeartbeats 8000000 in
theorem k_X10_levelsOf_b82 {u : Nat} {N : Nat} {Φ : (Option ((Int64 × Int32) ⊕ Int64)) → Option Value → dc_M → Prop} (x0 : Nat) (x1 : Int32) (x2 : Int64) (x4 : Int32) (x6 : Int32) (m : dc_M) (kR : ∀ (v : Int64), Φ (some (Sum.inr (v))) (some (.long v)) m) (k5 : ∀ (x2 : Int64) (x4 : Int32) (lv : ab_L), ab_lk lv 0 = some (.ref x0) → ab_lk lv 1 = some (.int x1) → ab_lk lv 2 = some (.long x2) → ab_lk lv 4 = some (.int x4) →  dc_pv u N ab_M_X10_levelsOf 5 lv [] m (Φ (some (Sum.inl (x2, x4))))) {lv : ab_L} (f0 : ab_lk lv 0 = some (.ref x0)) (f1 : ab_lk lv 1 = some (.int x1)) (f2 : ab_lk lv 2 = some (.long x2)) (f4 : ab_lk lv 4 = some (.int x4)) (f6 : ab_lk lv 6 = some (.int x6)) : dc_pv u N ab_M_X10_levelsOf 82 lv [] m (Φ (d_X10_levelsOf_b82 x0 x1 x2 x4 x6 m)) := by
  refine dc_pv.mono (dc_ok (C := C_X10_levelsOf) (S := S_X10_levelsOf) CO_X10_levelsOf 400 82 [(0, .ref x0), (1, .int x1), (2, .long x2), (4, .int x4), (6, .int x6)] lv [] m (dc_sub_cons f0 (dc_sub_cons f1 (dc_sub_cons f2 (dc_sub_cons f4 (dc_sub_cons f6 (dc_sub_nil)))))) ?_) (Nat.le_succ N)
  unfold d_X10_levelsOf_b82
  refine dg_s (pc' := 83) [.long x2] rfl (fun _ => rfl) rfl ?_
  refine dg_s (pc' := 85) [.int x6, .long x2] rfl (fun _ => rfl) rfl ?_
  refine dw_if (fun t => Φ t) ((Int32.toInt x6) = 0) [.long x2] 95 88 rfl (fun _ => rfl) (fun c0 => ?_) (fun c0 => ?_)
  · refine dw_g rfl ?_
    refine dg_s (pc' := 96) [.long (0 : Int64), .long x2] rfl (fun _ => rfl) rfl ?_
    refine dg_s (pc' := 97) [.long (x2 ||| (0 : Int64))] rfl (fun _ => rfl) rfl ?_
    refine dg_L (pc' := 98) [(2, .long (x2 ||| (0 : Int64))), (0, .ref x0), (1, .int x1), (4, .int x4), (6, .int x6)] [] rfl (fun _ => rfl) rfl ?_
    refine dg_L (pc' := 101) [(4, .int (x4 + (1 : Int32))), (2, .long (x2 ||| (0 : Int64))), (0, .ref x0), (1, .int x1), (6, .int x6)] [] rfl (fun _ => rfl) rfl ?_
    refine dw_s (pc' := 5) [] rfl (fun _ => rfl) ?_
    exact dw_j rfl (fun lv1 hv => k5 (x2 ||| (0 : Int64)) (x4 + (1 : Int32)) lv1 (hv.1 _ rfl) (hv.2.1 _ rfl) (hv.2.2.1 _ rfl) (hv.2.2.2.1 _ rfl))
  · refine dw_g rfl ?_
    refine dg_s (pc' := 89) [.long (1 : Int64), .long x2] rfl (fun _ => rfl) rfl ?_
    refine dg_s (pc' := 91) [.int x4, .long (1 : Int64), .long x2] rfl (fun _ => rfl) rfl ?_
    refine dg_s (pc' := 92) [.long ((1 : Int64) <<< (Int32.toInt64 x4 &&& 63)), .long x2] rfl (fun _ => rfl) rfl ?_
    refine dg_s (pc' := 96) [.long ((1 : Int64) <<< (Int32.toInt64 x4 &&& 63)), .long x2] rfl (fun _ => rfl) rfl ?_
    refine dg_s (pc' := 97) [.long (x2 ||| ((1 : Int64) <<< (Int32.toInt64 x4 &&& 63)))] rfl (fun _ => rfl) rfl ?_
    refine dg_L (pc' := 98) [(2, .long (x2 ||| ((1 : Int64) <<< (Int32.toInt64 x4 &&& 63)))), (0, .ref x0), (1, .int x1), (4, .int x4), (6, .int x6)] [] rfl (fun _ => rfl) rfl ?_
    refine dg_L (pc' := 101) [(4, .int (x4 + (1 : Int32))), (2, .long (x2 ||| ((1 : Int64) <<< (Int32.toInt64 x4 &&& 63)))), (0, .ref x0), (1, .int x1), (6, .int x6)] [] rfl (fun _ => rfl) rfl ?_
    refine dw_s (pc' := 5) [] rfl (fun _ => rfl) ?_
    exact dw_j rfl (fun lv1 hv => k5 (x2 ||| ((1 : Int64) <<< (Int32.toInt64 x4 &&& 63))) (x4 + (1 : Int32)) lv1 (hv.1 _ rfl) (hv.2.1 _ rfl) (hv.2.2.1 _ rfl) (hv.2.2.2.1 _ rfl))
noncomputable def d_X10_levelsOf_l25b (x0 : Nat) (x1 : Int32) (x2 : Int64) (x4 : Int32) (x5 : Int32) (x6 : Int32) (x7 : Int32) (m : dc_M) : Option ((Int32 × Int32 × Int32) ⊕ ((Int64 × Int32) ⊕ Int64)) :=
  (if (Int32.toInt (m.1 x0 0)) ≤ (Int32.toInt x7) then ((d_X10_levelsOf_b82 x0 x1 x2 x4 x6 m).map (fun z => Sum.inr (z))) else (if (Int32.toInt x6) = 0 then some (Sum.inl ((x5 / (3 : Int32)), (0 : Int32), (x7 + (1 : Int32)))) else (if (Int32.toInt (x5 - x5 / (3 : Int32) * (3 : Int32))) = 2 then some (Sum.inl ((x5 / (3 : Int32)), (1 : Int32), (x7 + (1 : Int32)))) else (if ¬ (Int32.toInt (x5 - x5 / (3 : Int32) * (3 : Int32))) = (Int32.toInt ((x4 >>> (x7 &&& 31)) &&& (1 : Int32))) then some (Sum.inl ((x5 / (3 : Int32)), (0 : Int32), (x7 + (1 : Int32)))) else some (Sum.inl ((x5 / (3 : Int32)), (1 : Int32), (x7 + (1 : Int32))))))))
noncomputable def d_X10_levelsOf_l25s (x0 : Nat) (x1 : Int32) (x2 : Int64) (x4 : Int32) (m : dc_M) : (Int32 × Int32 × Int32) → Option ((Int32 × Int32 × Int32) ⊕ ((Int64 × Int32) ⊕ Int64)) := fun s => d_X10_levelsOf_l25b x0 x1 x2 x4 s.1 s.2.1 s.2.2 m
noncomputable def d_X10_levelsOf_l25 (x0 : Nat) (x1 : Int32) (x2 : Int64) (x4 : Int32) (x5 : Int32) (x6 : Int32) (x7 : Int32) (m : dc_M) : Option ((Int64 × Int32) ⊕ Int64) := dc_lp (d_X10_levelsOf_l25s x0 x1 x2 x4 m) (x5, x6, x7)
set_option maxHeartbeats 8000000 in
theorem k_X10_levelsOf_l25 {u : Nat} {Φ : (Option ((Int64 × Int32) ⊕ Int64)) → Option Value → dc_M → Prop} (x0 : Nat) (x1 : Int32) (x2 : Int64) (x4 : Int32) (m : dc_M) (kR : ∀ (v : Int64), Φ (some (Sum.inr (v))) (some (.long v)) m) : ∀ (N : Nat), (∀ (x2 : Int64) (x4 : Int32) (lv : ab_L), ab_lk lv 0 = some (.ref x0) → ab_lk lv 1 = some (.int x1) → ab_lk lv 2 = some (.long x2) → ab_lk lv 4 = some (.int x4) →  dc_pv u N ab_M_X10_levelsOf 5 lv [] m (Φ (some (Sum.inl (x2, x4))))) → ∀ (x5 : Int32) (x6 : Int32) (x7 : Int32) (lv : ab_L), ab_lk lv 0 = some (.ref x0) → ab_lk lv 1 = some (.int x1) → ab_lk lv 2 = some (.long x2) → ab_lk lv 4 = some (.int x4) → ab_lk lv 5 = some (.int x5) → ab_lk lv 6 = some (.int x6) → ab_lk lv 7 = some (.int x7) → dc_pv u N ab_M_X10_levelsOf 25 lv [] m (Φ (d_X10_levelsOf_l25 x0 x1 x2 x4 x5 x6 x7 m)) := by
  intro N
  induction N with
  | zero => intros; exact dc_pv_zero
  | succ N ih =>
    intro k5 x5 x6 x7 lv f0 f1 f2 f4 f5 f6 f7
    have k5 := fun a0 a1 a2 a3 a4 a5 a6 => (k5 a0 a1 a2 a3 a4 a5 a6).mono (Nat.le_succ N)
    have ih := ih k5
    refine dc_ok (C := C_X10_levelsOf) (S := S_X10_levelsOf) CO_X10_levelsOf 400 25 [(0, .ref x0), (1, .int x1), (2, .long x2), (4, .int x4), (5, .int x5), (6, .int x6), (7, .int x7)] lv [] m (dc_sub_cons f0 (dc_sub_cons f1 (dc_sub_cons f2 (dc_sub_cons f4 (dc_sub_cons f5 (dc_sub_cons f6 (dc_sub_cons f7 (dc_sub_nil)))))))) ?_
    unfold d_X10_levelsOf_l25
    rw [dc_lp_eq]
    show (fun t x => dc_lf u N ab_M_X10_levelsOf (Φ (Option.bind t (dc_bk (d_X10_levelsOf_l25s x0 x1 x2 x4 m)))) x) (d_X10_levelsOf_l25b x0 x1 x2 x4 x5 x6 x7 m) _
    dsimp only
    unfold d_X10_levelsOf_l25b
    refine dg_s (pc' := 27) [.int x7] rfl (fun _ => rfl) rfl ?_
    refine dg_s (pc' := 28) [.ref x0, .int x7] rfl (fun _ => rfl) rfl ?_
    refine dg_s (pc' := 31) [.int (m.1 x0 0), .int x7] rfl (fun _ => rfl) rfl ?_
    refine dw_if (fun t => Φ (Option.bind t (dc_bk (d_X10_levelsOf_l25s x0 x1 x2 x4 m)))) ((Int32.toInt (m.1 x0 0)) ≤ (Int32.toInt x7)) [] 82 34 rfl (fun _ => rfl) (fun c0 => ?_) (fun c0 => ?_)
    · exact dw_j rfl (fun lv1 hv => k_X10_levelsOf_b82 (Φ := (fun t => Φ (Option.bind (t.map (fun z => Sum.inr (z))) (dc_bk (d_X10_levelsOf_l25s x0 x1 x2 x4 m))))) x0 x1 x2 x4 x6 m (fun _a  => kR _a) k5 (hv.1 _ rfl) (hv.2.1 _ rfl) (hv.2.2.1 _ rfl) (hv.2.2.2.1 _ rfl) (hv.2.2.2.2.1 _ rfl))
    · refine dw_g rfl ?_
      refine dg_s (pc' := 36) [.int x5] rfl (fun _ => rfl) rfl ?_
      refine dg_s (pc' := 37) [.int (3 : Int32), .int x5] rfl (fun _ => rfl) rfl ?_
      refine dg_s (pc' := 38) [.int (x5 - x5 / (3 : Int32) * (3 : Int32))] rfl (fun _ => rfl) rfl ?_
      refine dg_L (pc' := 40) [(8, .int (x5 - x5 / (3 : Int32) * (3 : Int32))), (0, .ref x0), (1, .int x1), (2, .long x2), (4, .int x4), (5, .int x5), (6, .int x6), (7, .int x7)] [] rfl (fun _ => rfl) rfl ?_
      refine dg_s (pc' := 42) [.int x5] rfl (fun _ => rfl) rfl ?_
      refine dg_s (pc' := 43) [.int (3 : Int32), .int x5] rfl (fun _ => rfl) rfl ?_
      refine dg_s (pc' := 44) [.int (x5 / (3 : Int32))] rfl (fun _ => rfl) rfl ?_
      refine dg_L (pc' := 46) [(5, .int (x5 / (3 : Int32))), (8, .int (x5 - x5 / (3 : Int32) * (3 : Int32))), (0, .ref x0), (1, .int x1), (2, .long x2), (4, .int x4), (6, .int x6), (7, .int x7)] [] rfl (fun _ => rfl) rfl ?_
      refine dg_s (pc' := 48) [.int x6] rfl (fun _ => rfl) rfl ?_
      refine dw_if (fun t => Φ (Option.bind t (dc_bk (d_X10_levelsOf_l25s x0 x1 x2 x4 m)))) ((Int32.toInt x6) = 0) [] 73 51 rfl (fun _ => rfl) (fun c1 => ?_) (fun c1 => ?_)
      · refine dw_g rfl ?_
        refine dg_s (pc' := 74) [.int (0 : Int32)] rfl (fun _ => rfl) rfl ?_
        refine dg_L (pc' := 76) [(6, .int (0 : Int32)), (5, .int (x5 / (3 : Int32))), (8, .int (x5 - x5 / (3 : Int32) * (3 : Int32))), (0, .ref x0), (1, .int x1), (2, .long x2), (4, .int x4), (7, .int x7)] [] rfl (fun _ => rfl) rfl ?_
        refine dg_L (pc' := 79) [(7, .int (x7 + (1 : Int32))), (6, .int (0 : Int32)), (5, .int (x5 / (3 : Int32))), (8, .int (x5 - x5 / (3 : Int32) * (3 : Int32))), (0, .ref x0), (1, .int x1), (2, .long x2), (4, .int x4)] [] rfl (fun _ => rfl) rfl ?_
        refine dw_s (pc' := 25) [] rfl (fun _ => rfl) ?_
        exact dw_j rfl (fun lv1 hv => ih (x5 / (3 : Int32)) (0 : Int32) (x7 + (1 : Int32)) lv1 (hv.1 _ rfl) (hv.2.1 _ rfl) (hv.2.2.1 _ rfl) (hv.2.2.2.1 _ rfl) (hv.2.2.2.2.1 _ rfl) (hv.2.2.2.2.2.1 _ rfl) (hv.2.2.2.2.2.2.1 _ rfl))
      · refine dw_g rfl ?_
        refine dg_s (pc' := 53) [.int (x5 - x5 / (3 : Int32) * (3 : Int32))] rfl (fun _ => rfl) rfl ?_
        refine dg_s (pc' := 54) [.int (2 : Int32), .int (x5 - x5 / (3 : Int32) * (3 : Int32))] rfl (fun _ => rfl) rfl ?_
        refine dw_if (fun t => Φ (Option.bind t (dc_bk (d_X10_levelsOf_l25s x0 x1 x2 x4 m)))) ((Int32.toInt (x5 - x5 / (3 : Int32) * (3 : Int32))) = 2) [] 69 57 rfl (fun _ => rfl) (fun c2 => ?_) (fun c2 => ?_)
        · refine dw_g rfl ?_
          refine dg_s (pc' := 70) [.int (1 : Int32)] rfl (fun _ => rfl) rfl ?_
          refine dg_s (pc' := 74) [.int (1 : Int32)] rfl (fun _ => rfl) rfl ?_
          refine dg_L (pc' := 76) [(6, .int (1 : Int32)), (5, .int (x5 / (3 : Int32))), (8, .int (x5 - x5 / (3 : Int32) * (3 : Int32))), (0, .ref x0), (1, .int x1), (2, .long x2), (4, .int x4), (7, .int x7)] [] rfl (fun _ => rfl) rfl ?_
          refine dg_L (pc' := 79) [(7, .int (x7 + (1 : Int32))), (6, .int (1 : Int32)), (5, .int (x5 / (3 : Int32))), (8, .int (x5 - x5 / (3 : Int32) * (3 : Int32))), (0, .ref x0), (1, .int x1), (2, .long x2), (4, .int x4)] [] rfl (fun _ => rfl) rfl ?_
          refine dw_s (pc' := 25) [] rfl (fun _ => rfl) ?_
          exact dw_j rfl (fun lv1 hv => ih (x5 / (3 : Int32)) (1 : Int32) (x7 + (1 : Int32)) lv1 (hv.1 _ rfl) (hv.2.1 _ rfl) (hv.2.2.1 _ rfl) (hv.2.2.2.1 _ rfl) (hv.2.2.2.2.1 _ rfl) (hv.2.2.2.2.2.1 _ rfl) (hv.2.2.2.2.2.2.1 _ rfl))
        · refine dw_g rfl ?_
          refine dg_s (pc' := 59) [.int (x5 - x5 / (3 : Int32) * (3 : Int32))] rfl (fun _ => rfl) rfl ?_
          refine dg_s (pc' := 61) [.int x4, .int (x5 - x5 / (3 : Int32) * (3 : Int32))] rfl (fun _ => rfl) rfl ?_
          refine dg_s (pc' := 63) [.int x7, .int x4, .int (x5 - x5 / (3 : Int32) * (3 : Int32))] rfl (fun _ => rfl) rfl ?_
          refine dg_s (pc' := 64) [.int (x4 >>> (x7 &&& 31)), .int (x5 - x5 / (3 : Int32) * (3 : Int32))] rfl (fun _ => rfl) rfl ?_
          refine dg_s (pc' := 65) [.int (1 : Int32), .int (x4 >>> (x7 &&& 31)), .int (x5 - x5 / (3 : Int32) * (3 : Int32))] rfl (fun _ => rfl) rfl ?_
          refine dg_s (pc' := 66) [.int ((x4 >>> (x7 &&& 31)) &&& (1 : Int32)), .int (x5 - x5 / (3 : Int32) * (3 : Int32))] rfl (fun _ => rfl) rfl ?_
          refine dw_if (fun t => Φ (Option.bind t (dc_bk (d_X10_levelsOf_l25s x0 x1 x2 x4 m)))) (¬ (Int32.toInt (x5 - x5 / (3 : Int32) * (3 : Int32))) = (Int32.toInt ((x4 >>> (x7 &&& 31)) &&& (1 : Int32)))) [] 73 69 rfl (fun _ => rfl) (fun c3 => ?_) (fun c3 => ?_)
          · refine dw_g rfl ?_
            refine dg_s (pc' := 74) [.int (0 : Int32)] rfl (fun _ => rfl) rfl ?_
            refine dg_L (pc' := 76) [(6, .int (0 : Int32)), (5, .int (x5 / (3 : Int32))), (8, .int (x5 - x5 / (3 : Int32) * (3 : Int32))), (0, .ref x0), (1, .int x1), (2, .long x2), (4, .int x4), (7, .int x7)] [] rfl (fun _ => rfl) rfl ?_
            refine dg_L (pc' := 79) [(7, .int (x7 + (1 : Int32))), (6, .int (0 : Int32)), (5, .int (x5 / (3 : Int32))), (8, .int (x5 - x5 / (3 : Int32) * (3 : Int32))), (0, .ref x0), (1, .int x1), (2, .long x2), (4, .int x4)] [] rfl (fun _ => rfl) rfl ?_
            refine dw_s (pc' := 25) [] rfl (fun _ => rfl) ?_
            exact dw_j rfl (fun lv1 hv => ih (x5 / (3 : Int32)) (0 : Int32) (x7 + (1 : Int32)) lv1 (hv.1 _ rfl) (hv.2.1 _ rfl) (hv.2.2.1 _ rfl) (hv.2.2.2.1 _ rfl) (hv.2.2.2.2.1 _ rfl) (hv.2.2.2.2.2.1 _ rfl) (hv.2.2.2.2.2.2.1 _ rfl))
          · refine dw_g rfl ?_
            refine dg_s (pc' := 70) [.int (1 : Int32)] rfl (fun _ => rfl) rfl ?_
            refine dg_s (pc' := 74) [.int (1 : Int32)] rfl (fun _ => rfl) rfl ?_
            refine dg_L (pc' := 76) [(6, .int (1 : Int32)), (5, .int (x5 / (3 : Int32))), (8, .int (x5 - x5 / (3 : Int32) * (3 : Int32))), (0, .ref x0), (1, .int x1), (2, .long x2), (4, .int x4), (7, .int x7)] [] rfl (fun _ => rfl) rfl ?_
            refine dg_L (pc' := 79) [(7, .int (x7 + (1 : Int32))), (6, .int (1 : Int32)), (5, .int (x5 / (3 : Int32))), (8, .int (x5 - x5 / (3 : Int32) * (3 : Int32))), (0, .ref x0), (1, .int x1), (2, .long x2), (4, .int x4)] [] rfl (fun _ => rfl) rfl ?_
            refine dw_s (pc' := 25) [] rfl (fun _ => rfl) ?_
            exact dw_j rfl (fun lv1 hv => ih (x5 / (3 : Int32)) (1 : Int32) (x7 + (1 : Int32)) lv1 (hv.1 _ rfl) (hv.2.1 _ rfl) (hv.2.2.1 _ rfl) (hv.2.2.2.1 _ rfl) (hv.2.2.2.2.1 _ rfl) (hv.2.2.2.2.2.1 _ rfl) (hv.2.2.2.2.2.2.1 _ rfl))
noncomputable def d_X10_levelsOf_l5b (x0 : Nat) (x1 : Int32) (x2 : Int64) (x4 : Int32) (m : dc_M) : Option ((Int64 × Int32) ⊕ Int64) :=
  (if (Int32.toInt ((1 : Int32) <<< ((m.1 x0 0) &&& 31))) ≤ (Int32.toInt x4) then some (Sum.inr (x2)) else (d_X10_levelsOf_l25 x0 x1 x2 x4 x1 (1 : Int32) (0 : Int32) m))
noncomputable def d_X10_levelsOf_l5s (x0 : Nat) (x1 : Int32) (m : dc_M) : (Int64 × Int32) → Option ((Int64 × Int32) ⊕ Int64) := fun s => d_X10_levelsOf_l5b x0 x1 s.1 s.2 m
noncomputable def d_X10_levelsOf_l5 (x0 : Nat) (x1 : Int32) (x2 : Int64) (x4 : Int32) (m : dc_M) : Option Int64 := dc_lp (d_X10_levelsOf_l5s x0 x1 m) (x2, x4)
set_option maxHeartbeats 8000000 in
theorem k_X10_levelsOf_l5 {u : Nat} {Φ : (Option Int64) → Option Value → dc_M → Prop} (x0 : Nat) (x1 : Int32) (m : dc_M) (kR : ∀ (v : Int64), Φ (some (v)) (some (.long v)) m) : ∀ (N : Nat), ∀ (x2 : Int64) (x4 : Int32) (lv : ab_L), ab_lk lv 0 = some (.ref x0) → ab_lk lv 1 = some (.int x1) → ab_lk lv 2 = some (.long x2) → ab_lk lv 4 = some (.int x4) → dc_pv u N ab_M_X10_levelsOf 5 lv [] m (Φ (d_X10_levelsOf_l5 x0 x1 x2 x4 m)) := by
  intro N
  induction N with
  | zero => intros; exact dc_pv_zero
  | succ N ih =>
    intro x2 x4 lv f0 f1 f2 f4
    refine dc_ok (C := C_X10_levelsOf) (S := S_X10_levelsOf) CO_X10_levelsOf 400 5 [(0, .ref x0), (1, .int x1), (2, .long x2), (4, .int x4)] lv [] m (dc_sub_cons f0 (dc_sub_cons f1 (dc_sub_cons f2 (dc_sub_cons f4 (dc_sub_nil))))) ?_
    unfold d_X10_levelsOf_l5
    rw [dc_lp_eq]
    show (fun t x => dc_lf u N ab_M_X10_levelsOf (Φ (Option.bind t (dc_bk (d_X10_levelsOf_l5s x0 x1 m)))) x) (d_X10_levelsOf_l5b x0 x1 x2 x4 m) _
    dsimp only
    unfold d_X10_levelsOf_l5b
    refine dg_s (pc' := 7) [.int x4] rfl (fun _ => rfl) rfl ?_
    refine dg_s (pc' := 8) [.int (1 : Int32), .int x4] rfl (fun _ => rfl) rfl ?_
    refine dg_s (pc' := 9) [.ref x0, .int (1 : Int32), .int x4] rfl (fun _ => rfl) rfl ?_
    refine dg_s (pc' := 12) [.int (m.1 x0 0), .int (1 : Int32), .int x4] rfl (fun _ => rfl) rfl ?_
    refine dg_s (pc' := 13) [.int ((1 : Int32) <<< ((m.1 x0 0) &&& 31)), .int x4] rfl (fun _ => rfl) rfl ?_
    refine dw_if (fun t => Φ (Option.bind t (dc_bk (d_X10_levelsOf_l5s x0 x1 m)))) ((Int32.toInt ((1 : Int32) <<< ((m.1 x0 0) &&& 31))) ≤ (Int32.toInt x4)) [] 104 16 rfl (fun _ => rfl) (fun c0 => ?_) (fun c0 => ?_)
    · refine dw_g rfl ?_
      refine dg_s (pc' := 105) [.long x2] rfl (fun _ => rfl) rfl ?_
      exact dw_r (some (.inl (some (.long x2), m))) rfl (fun _ => rfl) (kR _)
    · refine dw_g rfl ?_
      refine dg_s (pc' := 17) [.int x1] rfl (fun _ => rfl) rfl ?_
      refine dg_L (pc' := 19) [(5, .int x1), (0, .ref x0), (1, .int x1), (2, .long x2), (4, .int x4)] [] rfl (fun _ => rfl) rfl ?_
      refine dg_s (pc' := 20) [.int (1 : Int32)] rfl (fun _ => rfl) rfl ?_
      refine dg_L (pc' := 22) [(6, .int (1 : Int32)), (5, .int x1), (0, .ref x0), (1, .int x1), (2, .long x2), (4, .int x4)] [] rfl (fun _ => rfl) rfl ?_
      refine dg_s (pc' := 23) [.int (0 : Int32)] rfl (fun _ => rfl) rfl ?_
      refine dw_L (pc' := 25) [(7, .int (0 : Int32)), (6, .int (1 : Int32)), (5, .int x1), (0, .ref x0), (1, .int x1), (2, .long x2), (4, .int x4)] [] rfl (fun _ => rfl) ?_
      exact dw_j rfl (fun lv1 hv => k_X10_levelsOf_l25 (Φ := (fun t => Φ (Option.bind t (dc_bk (d_X10_levelsOf_l5s x0 x1 m))))) x0 x1 x2 x4 m (fun _a  => kR _a) N ih x1 (1 : Int32) (0 : Int32) lv1 (hv.1 _ rfl) (hv.2.1 _ rfl) (hv.2.2.1 _ rfl) (hv.2.2.2.1 _ rfl) (hv.2.2.2.2.1 _ rfl) (hv.2.2.2.2.2.1 _ rfl) (hv.2.2.2.2.2.2.1 _ rfl))
noncomputable def d_X10_levelsOf (x0 : Nat) (x1 : Int32) (m : dc_M) : Option Int64 :=
  (d_X10_levelsOf_l5 x0 x1 (0 : Int64) (0 : Int32) m)
set_option maxHeartbeats 8000000 in
theorem k_X10_levelsOf {u : Nat} {N : Nat} {Φ : (Option Int64) → Option Value → dc_M → Prop} (x0 : Nat) (x1 : Int32) (m : dc_M) (kR : ∀ (v : Int64), Φ (some (v)) (some (.long v)) m)  {lv : ab_L} (f0 : ab_lk lv 0 = some (.ref x0)) (f1 : ab_lk lv 1 = some (.int x1)) : dc_pv u N ab_M_X10_levelsOf 0 lv [] m (Φ (d_X10_levelsOf x0 x1 m)) := by
  refine dc_pv.mono (dc_ok (C := C_X10_levelsOf) (S := S_X10_levelsOf) CO_X10_levelsOf 400 0 [(0, .ref x0), (1, .int x1)] lv [] m (dc_sub_cons f0 (dc_sub_cons f1 (dc_sub_nil))) ?_) (Nat.le_succ N)
  unfold d_X10_levelsOf
  refine dg_s (pc' := 1) [.long (0 : Int64)] rfl (fun _ => rfl) rfl ?_
  refine dg_L (pc' := 2) [(2, .long (0 : Int64)), (0, .ref x0), (1, .int x1)] [] rfl (fun _ => rfl) rfl ?_
  refine dg_s (pc' := 3) [.int (0 : Int32)] rfl (fun _ => rfl) rfl ?_
  refine dw_L (pc' := 5) [(4, .int (0 : Int32)), (2, .long (0 : Int64)), (0, .ref x0), (1, .int x1)] [] rfl (fun _ => rfl) ?_
  exact dw_j rfl (fun lv1 hv => k_X10_levelsOf_l5 (Φ := (fun t => Φ t)) x0 x1 m (fun _a  => kR _a) N  (0 : Int64) (0 : Int32) lv1 (hv.1 _ rfl) (hv.2.1 _ rfl) (hv.2.2.1 _ rfl) (hv.2.2.2.1 _ rfl))
noncomputable def H_X10_levelsOf : dc_H := fun As m k => match As with
  | [.ref x0, .int x1] => (d_X10_levelsOf x0 x1 m).bind (fun q => k (some (.long q)) m)
  | _ => dc_kz
theorem H_X10_levelsOf_ok {u : Nat} : dc_cok u 191 H_X10_levelsOf := fun M' hG N As m k P hz hP => by
  obtain rfl : ab_M_X10_levelsOf = M' := Option.some.inj hG
  unfold H_X10_levelsOf at hP
  split at hP
  · rename_i x0 x1
    exact dc_pv.imp (k_X10_levelsOf (Φ := fun (t : Option Int64) r m' => P (t.bind (fun q => k (some (.long q)) m)) → P (k r m')) x0 x1 m (fun _  h => h) rfl rfl) (fun r m' h => h hP)
  · exact absurd hP hz
def C_X10_lettersOf : List (Nat × dc_H) := []
theorem CO_X10_lettersOf {u : Nat} : dc_CO u C_X10_lettersOf := dc_CO_nil
def S_X10_lettersOf : List (Nat × List Nat) := [(7, [0, 2, 3, 4])]
noncomputable def d_X10_lettersOf_l7b (x0 : Nat) (x2 : Int32) (x3 : Int32) (x4 : Int32) (m : dc_M) : Option ((Int32 × Int32 × Int32) ⊕ Int32) :=
  (if (Int32.toInt (m.1 x0 0)) ≤ (Int32.toInt x4) then some (Sum.inr (x2)) else (if 2 ≤ (Int32.toInt (x3 - x3 / (3 : Int32) * (3 : Int32))) then some (Sum.inl ((x2 + (0 : Int32)), (x3 / (3 : Int32)), (x4 + (1 : Int32)))) else some (Sum.inl ((x2 + (1 : Int32)), (x3 / (3 : Int32)), (x4 + (1 : Int32))))))
noncomputable def d_X10_lettersOf_l7s (x0 : Nat) (m : dc_M) : (Int32 × Int32 × Int32) → Option ((Int32 × Int32 × Int32) ⊕ Int32) := fun s => d_X10_lettersOf_l7b x0 s.1 s.2.1 s.2.2 m
noncomputable def d_X10_lettersOf_l7 (x0 : Nat) (x2 : Int32) (x3 : Int32) (x4 : Int32) (m : dc_M) : Option Int32 := dc_lp (d_X10_lettersOf_l7s x0 m) (x2, x3, x4)
set_option maxHeartbeats 8000000 in
theorem k_X10_lettersOf_l7 {u : Nat} {Φ : (Option Int32) → Option Value → dc_M → Prop} (x0 : Nat) (m : dc_M) (kR : ∀ (v : Int32), Φ (some (v)) (some (.int v)) m) : ∀ (N : Nat), ∀ (x2 : Int32) (x3 : Int32) (x4 : Int32) (lv : ab_L), ab_lk lv 0 = some (.ref x0) → ab_lk lv 2 = some (.int x2) → ab_lk lv 3 = some (.int x3) → ab_lk lv 4 = some (.int x4) → dc_pv u N ab_M_X10_lettersOf 7 lv [] m (Φ (d_X10_lettersOf_l7 x0 x2 x3 x4 m)) := by
  intro N
  induction N with
  | zero => intros; exact dc_pv_zero
  | succ N ih =>
    intro x2 x3 x4 lv f0 f2 f3 f4
    refine dc_ok (C := C_X10_lettersOf) (S := S_X10_lettersOf) CO_X10_lettersOf 400 7 [(0, .ref x0), (2, .int x2), (3, .int x3), (4, .int x4)] lv [] m (dc_sub_cons f0 (dc_sub_cons f2 (dc_sub_cons f3 (dc_sub_cons f4 (dc_sub_nil))))) ?_
    unfold d_X10_lettersOf_l7
    rw [dc_lp_eq]
    show (fun t x => dc_lf u N ab_M_X10_lettersOf (Φ (Option.bind t (dc_bk (d_X10_lettersOf_l7s x0 m)))) x) (d_X10_lettersOf_l7b x0 x2 x3 x4 m) _
    dsimp only
    unfold d_X10_lettersOf_l7b
    refine dg_s (pc' := 9) [.int x4] rfl (fun _ => rfl) rfl ?_
    refine dg_s (pc' := 10) [.ref x0, .int x4] rfl (fun _ => rfl) rfl ?_
    refine dg_s (pc' := 13) [.int (m.1 x0 0), .int x4] rfl (fun _ => rfl) rfl ?_
    refine dw_if (fun t => Φ (Option.bind t (dc_bk (d_X10_lettersOf_l7s x0 m)))) ((Int32.toInt (m.1 x0 0)) ≤ (Int32.toInt x4)) [] 41 16 rfl (fun _ => rfl) (fun c0 => ?_) (fun c0 => ?_)
    · refine dw_g rfl ?_
      refine dg_s (pc' := 42) [.int x2] rfl (fun _ => rfl) rfl ?_
      exact dw_r (some (.inl (some (.int x2), m))) rfl (fun _ => rfl) (kR _)
    · refine dw_g rfl ?_
      refine dg_s (pc' := 17) [.int x2] rfl (fun _ => rfl) rfl ?_
      refine dg_s (pc' := 18) [.int x3, .int x2] rfl (fun _ => rfl) rfl ?_
      refine dg_s (pc' := 19) [.int (3 : Int32), .int x3, .int x2] rfl (fun _ => rfl) rfl ?_
      refine dg_s (pc' := 20) [.int (x3 - x3 / (3 : Int32) * (3 : Int32)), .int x2] rfl (fun _ => rfl) rfl ?_
      refine dg_s (pc' := 21) [.int (2 : Int32), .int (x3 - x3 / (3 : Int32) * (3 : Int32)), .int x2] rfl (fun _ => rfl) rfl ?_
      refine dw_if (fun t => Φ (Option.bind t (dc_bk (d_X10_lettersOf_l7s x0 m)))) (2 ≤ (Int32.toInt (x3 - x3 / (3 : Int32) * (3 : Int32)))) [.int x2] 28 24 rfl (fun _ => rfl) (fun c1 => ?_) (fun c1 => ?_)
      · refine dw_g rfl ?_
        refine dg_s (pc' := 29) [.int (0 : Int32), .int x2] rfl (fun _ => rfl) rfl ?_
        refine dg_s (pc' := 30) [.int (x2 + (0 : Int32))] rfl (fun _ => rfl) rfl ?_
        refine dg_L (pc' := 31) [(2, .int (x2 + (0 : Int32))), (0, .ref x0), (3, .int x3), (4, .int x4)] [] rfl (fun _ => rfl) rfl ?_
        refine dg_s (pc' := 32) [.int x3] rfl (fun _ => rfl) rfl ?_
        refine dg_s (pc' := 33) [.int (3 : Int32), .int x3] rfl (fun _ => rfl) rfl ?_
        refine dg_s (pc' := 34) [.int (x3 / (3 : Int32))] rfl (fun _ => rfl) rfl ?_
        refine dg_L (pc' := 35) [(3, .int (x3 / (3 : Int32))), (2, .int (x2 + (0 : Int32))), (0, .ref x0), (4, .int x4)] [] rfl (fun _ => rfl) rfl ?_
        refine dg_L (pc' := 38) [(4, .int (x4 + (1 : Int32))), (3, .int (x3 / (3 : Int32))), (2, .int (x2 + (0 : Int32))), (0, .ref x0)] [] rfl (fun _ => rfl) rfl ?_
        refine dw_s (pc' := 7) [] rfl (fun _ => rfl) ?_
        exact dw_j rfl (fun lv1 hv => ih (x2 + (0 : Int32)) (x3 / (3 : Int32)) (x4 + (1 : Int32)) lv1 (hv.1 _ rfl) (hv.2.1 _ rfl) (hv.2.2.1 _ rfl) (hv.2.2.2.1 _ rfl))
      · refine dw_g rfl ?_
        refine dg_s (pc' := 25) [.int (1 : Int32), .int x2] rfl (fun _ => rfl) rfl ?_
        refine dg_s (pc' := 29) [.int (1 : Int32), .int x2] rfl (fun _ => rfl) rfl ?_
        refine dg_s (pc' := 30) [.int (x2 + (1 : Int32))] rfl (fun _ => rfl) rfl ?_
        refine dg_L (pc' := 31) [(2, .int (x2 + (1 : Int32))), (0, .ref x0), (3, .int x3), (4, .int x4)] [] rfl (fun _ => rfl) rfl ?_
        refine dg_s (pc' := 32) [.int x3] rfl (fun _ => rfl) rfl ?_
        refine dg_s (pc' := 33) [.int (3 : Int32), .int x3] rfl (fun _ => rfl) rfl ?_
        refine dg_s (pc' := 34) [.int (x3 / (3 : Int32))] rfl (fun _ => rfl) rfl ?_
        refine dg_L (pc' := 35) [(3, .int (x3 / (3 : Int32))), (2, .int (x2 + (1 : Int32))), (0, .ref x0), (4, .int x4)] [] rfl (fun _ => rfl) rfl ?_
        refine dg_L (pc' := 38) [(4, .int (x4 + (1 : Int32))), (3, .int (x3 / (3 : Int32))), (2, .int (x2 + (1 : Int32))), (0, .ref x0)] [] rfl (fun _ => rfl) rfl ?_
        refine dw_s (pc' := 7) [] rfl (fun _ => rfl) ?_
        exact dw_j rfl (fun lv1 hv => ih (x2 + (1 : Int32)) (x3 / (3 : Int32)) (x4 + (1 : Int32)) lv1 (hv.1 _ rfl) (hv.2.1 _ rfl) (hv.2.2.1 _ rfl) (hv.2.2.2.1 _ rfl))
noncomputable def d_X10_lettersOf (x0 : Nat) (x1 : Int32) (m : dc_M) : Option Int32 :=
  (d_X10_lettersOf_l7 x0 (0 : Int32) x1 (0 : Int32) m)
set_option maxHeartbeats 8000000 in
theorem k_X10_lettersOf {u : Nat} {N : Nat} {Φ : (Option Int32) → Option Value → dc_M → Prop} (x0 : Nat) (x1 : Int32) (m : dc_M) (kR : ∀ (v : Int32), Φ (some (v)) (some (.int v)) m)  {lv : ab_L} (f0 : ab_lk lv 0 = some (.ref x0)) (f1 : ab_lk lv 1 = some (.int x1)) : dc_pv u N ab_M_X10_lettersOf 0 lv [] m (Φ (d_X10_lettersOf x0 x1 m)) := by
  refine dc_pv.mono (dc_ok (C := C_X10_lettersOf) (S := S_X10_lettersOf) CO_X10_lettersOf 400 0 [(0, .ref x0), (1, .int x1)] lv [] m (dc_sub_cons f0 (dc_sub_cons f1 (dc_sub_nil))) ?_) (Nat.le_succ N)
  unfold d_X10_lettersOf
  refine dg_s (pc' := 1) [.int (0 : Int32)] rfl (fun _ => rfl) rfl ?_
  refine dg_L (pc' := 2) [(2, .int (0 : Int32)), (0, .ref x0), (1, .int x1)] [] rfl (fun _ => rfl) rfl ?_
  refine dg_s (pc' := 3) [.int x1] rfl (fun _ => rfl) rfl ?_
  refine dg_L (pc' := 4) [(3, .int x1), (2, .int (0 : Int32)), (0, .ref x0), (1, .int x1)] [] rfl (fun _ => rfl) rfl ?_
  refine dg_s (pc' := 5) [.int (0 : Int32)] rfl (fun _ => rfl) rfl ?_
  refine dw_L (pc' := 7) [(4, .int (0 : Int32)), (3, .int x1), (2, .int (0 : Int32)), (0, .ref x0), (1, .int x1)] [] rfl (fun _ => rfl) ?_
  exact dw_j rfl (fun lv1 hv => k_X10_lettersOf_l7 (Φ := (fun t => Φ t)) x0 m (fun _a  => kR _a) N  (0 : Int32) x1 (0 : Int32) lv1 (hv.1 _ rfl) (hv.2.1 _ rfl) (hv.2.2.1 _ rfl) (hv.2.2.2.1 _ rfl))
noncomputable def H_X10_lettersOf : dc_H := fun As m k => match As with
  | [.ref x0, .int x1] => (d_X10_lettersOf x0 x1 m).bind (fun q => k (some (.int q)) m)
  | _ => dc_kz
theorem H_X10_lettersOf_ok {u : Nat} : dc_cok u 192 H_X10_lettersOf := fun M' hG N As m k P hz hP => by
  obtain rfl : ab_M_X10_lettersOf = M' := Option.some.inj hG
  unfold H_X10_lettersOf at hP
  split at hP
  · rename_i x0 x1
    exact dc_pv.imp (k_X10_lettersOf (Φ := fun (t : Option Int32) r m' => P (t.bind (fun q => k (some (.int q)) m)) → P (k r m')) x0 x1 m (fun _  h => h) rfl rfl) (fun r m' h => h hP)
  · exact absurd hP hz
noncomputable def C_X10_layCubes : List (Nat × dc_H) := [(190, H_X10_cubeAll), (192, H_X10_lettersOf), (191, H_X10_levelsOf)]
theorem CO_X10_layCubes {u : Nat} : dc_CO u C_X10_layCubes := dc_CO_cons H_X10_cubeAll_ok (dc_CO_cons H_X10_lettersOf_ok (dc_CO_cons H_X10_levelsOf_ok (dc_CO_nil)))
def S_X10_layCubes : List (Nat × List Nat) := [(7, [0, 1]), (56, [0, 1, 2, 4, 5, 6]), (126, [0, 1, 2, 4])]
noncomputable def d_X10_layCubes_b126 (x0 : Nat) (x1 : Int32) (x2 : Int64) (x4 : Int32) (m : dc_M) : Option ((Int32 × dc_M) ⊕ dc_M) :=
  (if (Int32.toInt x4) = 0 then some (Sum.inl ((x1 + (1 : Int32)), m)) else ((d_X10_lettersOf x0 x1 (dc_wl (dc_wi m (x0 + 21) (Int32.toNatClampNeg (m.1 x0 49)) x1) (x0 + 22) (Int32.toNatClampNeg ((dc_wi m (x0 + 21) (Int32.toNatClampNeg (m.1 x0 49)) x1).1 x0 49)) (x2 &&& ((dc_wi m (x0 + 21) (Int32.toNatClampNeg (m.1 x0 49)) x1).2.1 x0 47)))).bind (fun q1 => some (Sum.inl ((x1 + (1 : Int32)), (dc_wi (dc_wi (dc_wl (dc_wi m (x0 + 21) (Int32.toNatClampNeg (m.1 x0 49)) x1) (x0 + 22) (Int32.toNatClampNeg ((dc_wi m (x0 + 21) (Int32.toNatClampNeg (m.1 x0 49)) x1).1 x0 49)) (x2 &&& ((dc_wi m (x0 + 21) (Int32.toNatClampNeg (m.1 x0 49)) x1).2.1 x0 47))) (x0 + 23) (Int32.toNatClampNeg ((dc_wl (dc_wi m (x0 + 21) (Int32.toNatClampNeg (m.1 x0 49)) x1) (x0 + 22) (Int32.toNatClampNeg ((dc_wi m (x0 + 21) (Int32.toNatClampNeg (m.1 x0 49)) x1).1 x0 49)) (x2 &&& ((dc_wi m (x0 + 21) (Int32.toNatClampNeg (m.1 x0 49)) x1).2.1 x0 47))).1 x0 49)) q1) x0 49 (((dc_wi (dc_wl (dc_wi m (x0 + 21) (Int32.toNatClampNeg (m.1 x0 49)) x1) (x0 + 22) (Int32.toNatClampNeg ((dc_wi m (x0 + 21) (Int32.toNatClampNeg (m.1 x0 49)) x1).1 x0 49)) (x2 &&& ((dc_wi m (x0 + 21) (Int32.toNatClampNeg (m.1 x0 49)) x1).2.1 x0 47))) (x0 + 23) (Int32.toNatClampNeg ((dc_wl (dc_wi m (x0 + 21) (Int32.toNatClampNeg (m.1 x0 49)) x1) (x0 + 22) (Int32.toNatClampNeg ((dc_wi m (x0 + 21) (Int32.toNatClampNeg (m.1 x0 49)) x1).1 x0 49)) (x2 &&& ((dc_wi m (x0 + 21) (Int32.toNatClampNeg (m.1 x0 49)) x1).2.1 x0 47))).1 x0 49)) q1).1 x0 49) + (1 : Int32))))))))
set_option maxHeartbeats 8000000 in
theorem k_X10_layCubes_b126 {u : Nat} {N : Nat} {Φ : (Option ((Int32 × dc_M) ⊕ dc_M)) → Option Value → dc_M → Prop} (x0 : Nat) (x1 : Int32) (x2 : Int64) (x4 : Int32) (m : dc_M) (kR : ∀  (m : dc_M), Φ (some (Sum.inr (m))) (none) m) (k7 : ∀ (x1 : Int32) (m : dc_M) (lv : ab_L), ab_lk lv 0 = some (.ref x0) → ab_lk lv 1 = some (.int x1) →  dc_pv u N ab_M_X10_layCubes 7 lv [] m (Φ (some (Sum.inl (x1, m))))) {lv : ab_L} (f0 : ab_lk lv 0 = some (.ref x0)) (f1 : ab_lk lv 1 = some (.int x1)) (f2 : ab_lk lv 2 = some (.long x2)) (f4 : ab_lk lv 4 = some (.int x4)) : dc_pv u N ab_M_X10_layCubes 126 lv [] m (Φ (d_X10_layCubes_b126 x0 x1 x2 x4 m)) := by
  refine dc_pv.mono (dc_ok (C := C_X10_layCubes) (S := S_X10_layCubes) CO_X10_layCubes 400 126 [(0, .ref x0), (1, .int x1), (2, .long x2), (4, .int x4)] lv [] m (dc_sub_cons f0 (dc_sub_cons f1 (dc_sub_cons f2 (dc_sub_cons f4 (dc_sub_nil))))) ?_) (Nat.le_succ N)
  unfold d_X10_layCubes_b126
  refine dg_s (pc' := 128) [.int x4] rfl (fun _ => rfl) rfl ?_
  refine dw_if (fun t => Φ t) ((Int32.toInt x4) = 0) [] 180 131 rfl (fun _ => rfl) (fun c0 => ?_) (fun c0 => ?_)
  · refine dw_g rfl ?_
    refine dg_L (pc' := 183) [(1, .int (x1 + (1 : Int32))), (0, .ref x0), (2, .long x2), (4, .int x4)] [] rfl (fun _ => rfl) rfl ?_
    refine dw_s (pc' := 7) [] rfl (fun _ => rfl) ?_
    exact dw_j rfl (fun lv1 hv => k7 (x1 + (1 : Int32)) m lv1 (hv.1 _ rfl) (hv.2.1 _ rfl))
  · refine dw_g rfl ?_
    refine dg_s (pc' := 132) [.ref x0] rfl (fun _ => rfl) rfl ?_
    refine dg_s (pc' := 135) [.ref (x0 + 21)] rfl (fun _ => rfl) rfl ?_
    refine dg_s (pc' := 136) [.ref x0, .ref (x0 + 21)] rfl (fun _ => rfl) rfl ?_
    refine dg_s (pc' := 139) [.int (m.1 x0 49), .ref (x0 + 21)] rfl (fun _ => rfl) rfl ?_
    refine dg_s (pc' := 140) [.int x1, .int (m.1 x0 49), .ref (x0 + 21)] rfl (fun _ => rfl) rfl ?_
    refine dg_m (pc' := 141) (dc_wi m (x0 + 21) (Int32.toNatClampNeg (m.1 x0 49)) x1) [] rfl (fun _ => rfl) rfl ?_
    refine dg_s (pc' := 142) [.ref x0] rfl (fun _ => rfl) rfl ?_
    refine dg_s (pc' := 145) [.ref (x0 + 22)] rfl (fun _ => rfl) rfl ?_
    refine dg_s (pc' := 146) [.ref x0, .ref (x0 + 22)] rfl (fun _ => rfl) rfl ?_
    refine dg_s (pc' := 149) [.int ((dc_wi m (x0 + 21) (Int32.toNatClampNeg (m.1 x0 49)) x1).1 x0 49), .ref (x0 + 22)] rfl (fun _ => rfl) rfl ?_
    refine dg_s (pc' := 150) [.long x2, .int ((dc_wi m (x0 + 21) (Int32.toNatClampNeg (m.1 x0 49)) x1).1 x0 49), .ref (x0 + 22)] rfl (fun _ => rfl) rfl ?_
    refine dg_s (pc' := 151) [.ref x0, .long x2, .int ((dc_wi m (x0 + 21) (Int32.toNatClampNeg (m.1 x0 49)) x1).1 x0 49), .ref (x0 + 22)] rfl (fun _ => rfl) rfl ?_
    refine dg_s (pc' := 154) [.long ((dc_wi m (x0 + 21) (Int32.toNatClampNeg (m.1 x0 49)) x1).2.1 x0 47), .long x2, .int ((dc_wi m (x0 + 21) (Int32.toNatClampNeg (m.1 x0 49)) x1).1 x0 49), .ref (x0 + 22)] rfl (fun _ => rfl) rfl ?_
    refine dg_s (pc' := 155) [.long (x2 &&& ((dc_wi m (x0 + 21) (Int32.toNatClampNeg (m.1 x0 49)) x1).2.1 x0 47)), .int ((dc_wi m (x0 + 21) (Int32.toNatClampNeg (m.1 x0 49)) x1).1 x0 49), .ref (x0 + 22)] rfl (fun _ => rfl) rfl ?_
    refine dg_m (pc' := 156) (dc_wl (dc_wi m (x0 + 21) (Int32.toNatClampNeg (m.1 x0 49)) x1) (x0 + 22) (Int32.toNatClampNeg ((dc_wi m (x0 + 21) (Int32.toNatClampNeg (m.1 x0 49)) x1).1 x0 49)) (x2 &&& ((dc_wi m (x0 + 21) (Int32.toNatClampNeg (m.1 x0 49)) x1).2.1 x0 47))) [] rfl (fun _ => rfl) rfl ?_
    refine dg_s (pc' := 157) [.ref x0] rfl (fun _ => rfl) rfl ?_
    refine dg_s (pc' := 160) [.ref (x0 + 23)] rfl (fun _ => rfl) rfl ?_
    refine dg_s (pc' := 161) [.ref x0, .ref (x0 + 23)] rfl (fun _ => rfl) rfl ?_
    refine dg_s (pc' := 164) [.int ((dc_wl (dc_wi m (x0 + 21) (Int32.toNatClampNeg (m.1 x0 49)) x1) (x0 + 22) (Int32.toNatClampNeg ((dc_wi m (x0 + 21) (Int32.toNatClampNeg (m.1 x0 49)) x1).1 x0 49)) (x2 &&& ((dc_wi m (x0 + 21) (Int32.toNatClampNeg (m.1 x0 49)) x1).2.1 x0 47))).1 x0 49), .ref (x0 + 23)] rfl (fun _ => rfl) rfl ?_
    refine dg_s (pc' := 165) [.ref x0, .int ((dc_wl (dc_wi m (x0 + 21) (Int32.toNatClampNeg (m.1 x0 49)) x1) (x0 + 22) (Int32.toNatClampNeg ((dc_wi m (x0 + 21) (Int32.toNatClampNeg (m.1 x0 49)) x1).1 x0 49)) (x2 &&& ((dc_wi m (x0 + 21) (Int32.toNatClampNeg (m.1 x0 49)) x1).2.1 x0 47))).1 x0 49), .ref (x0 + 23)] rfl (fun _ => rfl) rfl ?_
    refine dg_s (pc' := 166) [.int x1, .ref x0, .int ((dc_wl (dc_wi m (x0 + 21) (Int32.toNatClampNeg (m.1 x0 49)) x1) (x0 + 22) (Int32.toNatClampNeg ((dc_wi m (x0 + 21) (Int32.toNatClampNeg (m.1 x0 49)) x1).1 x0 49)) (x2 &&& ((dc_wi m (x0 + 21) (Int32.toNatClampNeg (m.1 x0 49)) x1).2.1 x0 47))).1 x0 49), .ref (x0 + 23)] rfl (fun _ => rfl) rfl ?_
    refine dw_b (fun t => Φ t) (pc' := 169) (fun q1 => [.int q1, .int ((dc_wl (dc_wi m (x0 + 21) (Int32.toNatClampNeg (m.1 x0 49)) x1) (x0 + 22) (Int32.toNatClampNeg ((dc_wi m (x0 + 21) (Int32.toNatClampNeg (m.1 x0 49)) x1).1 x0 49)) (x2 &&& ((dc_wi m (x0 + 21) (Int32.toNatClampNeg (m.1 x0 49)) x1).2.1 x0 47))).1 x0 49), .ref (x0 + 23)]) (fun q1 => (dc_wl (dc_wi m (x0 + 21) (Int32.toNatClampNeg (m.1 x0 49)) x1) (x0 + 22) (Int32.toNatClampNeg ((dc_wi m (x0 + 21) (Int32.toNatClampNeg (m.1 x0 49)) x1).1 x0 49)) (x2 &&& ((dc_wi m (x0 + 21) (Int32.toNatClampNeg (m.1 x0 49)) x1).2.1 x0 47)))) rfl (fun _ => rfl) (fun q1 => ?_)
    refine dw_g rfl ?_
    refine dg_m (pc' := 170) (dc_wi (dc_wl (dc_wi m (x0 + 21) (Int32.toNatClampNeg (m.1 x0 49)) x1) (x0 + 22) (Int32.toNatClampNeg ((dc_wi m (x0 + 21) (Int32.toNatClampNeg (m.1 x0 49)) x1).1 x0 49)) (x2 &&& ((dc_wi m (x0 + 21) (Int32.toNatClampNeg (m.1 x0 49)) x1).2.1 x0 47))) (x0 + 23) (Int32.toNatClampNeg ((dc_wl (dc_wi m (x0 + 21) (Int32.toNatClampNeg (m.1 x0 49)) x1) (x0 + 22) (Int32.toNatClampNeg ((dc_wi m (x0 + 21) (Int32.toNatClampNeg (m.1 x0 49)) x1).1 x0 49)) (x2 &&& ((dc_wi m (x0 + 21) (Int32.toNatClampNeg (m.1 x0 49)) x1).2.1 x0 47))).1 x0 49)) q1) [] rfl (fun _ => rfl) rfl ?_
    refine dg_s (pc' := 171) [.ref x0] rfl (fun _ => rfl) rfl ?_
    refine dg_s (pc' := 172) [.ref x0, .ref x0] rfl (fun _ => rfl) rfl ?_
    refine dg_s (pc' := 175) [.int ((dc_wi (dc_wl (dc_wi m (x0 + 21) (Int32.toNatClampNeg (m.1 x0 49)) x1) (x0 + 22) (Int32.toNatClampNeg ((dc_wi m (x0 + 21) (Int32.toNatClampNeg (m.1 x0 49)) x1).1 x0 49)) (x2 &&& ((dc_wi m (x0 + 21) (Int32.toNatClampNeg (m.1 x0 49)) x1).2.1 x0 47))) (x0 + 23) (Int32.toNatClampNeg ((dc_wl (dc_wi m (x0 + 21) (Int32.toNatClampNeg (m.1 x0 49)) x1) (x0 + 22) (Int32.toNatClampNeg ((dc_wi m (x0 + 21) (Int32.toNatClampNeg (m.1 x0 49)) x1).1 x0 49)) (x2 &&& ((dc_wi m (x0 + 21) (Int32.toNatClampNeg (m.1 x0 49)) x1).2.1 x0 47))).1 x0 49)) q1).1 x0 49), .ref x0] rfl (fun _ => rfl) rfl ?_
    refine dg_s (pc' := 176) [.int (1 : Int32), .int ((dc_wi (dc_wl (dc_wi m (x0 + 21) (Int32.toNatClampNeg (m.1 x0 49)) x1) (x0 + 22) (Int32.toNatClampNeg ((dc_wi m (x0 + 21) (Int32.toNatClampNeg (m.1 x0 49)) x1).1 x0 49)) (x2 &&& ((dc_wi m (x0 + 21) (Int32.toNatClampNeg (m.1 x0 49)) x1).2.1 x0 47))) (x0 + 23) (Int32.toNatClampNeg ((dc_wl (dc_wi m (x0 + 21) (Int32.toNatClampNeg (m.1 x0 49)) x1) (x0 + 22) (Int32.toNatClampNeg ((dc_wi m (x0 + 21) (Int32.toNatClampNeg (m.1 x0 49)) x1).1 x0 49)) (x2 &&& ((dc_wi m (x0 + 21) (Int32.toNatClampNeg (m.1 x0 49)) x1).2.1 x0 47))).1 x0 49)) q1).1 x0 49), .ref x0] rfl (fun _ => rfl) rfl ?_
    refine dg_s (pc' := 177) [.int (((dc_wi (dc_wl (dc_wi m (x0 + 21) (Int32.toNatClampNeg (m.1 x0 49)) x1) (x0 + 22) (Int32.toNatClampNeg ((dc_wi m (x0 + 21) (Int32.toNatClampNeg (m.1 x0 49)) x1).1 x0 49)) (x2 &&& ((dc_wi m (x0 + 21) (Int32.toNatClampNeg (m.1 x0 49)) x1).2.1 x0 47))) (x0 + 23) (Int32.toNatClampNeg ((dc_wl (dc_wi m (x0 + 21) (Int32.toNatClampNeg (m.1 x0 49)) x1) (x0 + 22) (Int32.toNatClampNeg ((dc_wi m (x0 + 21) (Int32.toNatClampNeg (m.1 x0 49)) x1).1 x0 49)) (x2 &&& ((dc_wi m (x0 + 21) (Int32.toNatClampNeg (m.1 x0 49)) x1).2.1 x0 47))).1 x0 49)) q1).1 x0 49) + (1 : Int32)), .ref x0] rfl (fun _ => rfl) rfl ?_
    refine dg_m (pc' := 180) (dc_wi (dc_wi (dc_wl (dc_wi m (x0 + 21) (Int32.toNatClampNeg (m.1 x0 49)) x1) (x0 + 22) (Int32.toNatClampNeg ((dc_wi m (x0 + 21) (Int32.toNatClampNeg (m.1 x0 49)) x1).1 x0 49)) (x2 &&& ((dc_wi m (x0 + 21) (Int32.toNatClampNeg (m.1 x0 49)) x1).2.1 x0 47))) (x0 + 23) (Int32.toNatClampNeg ((dc_wl (dc_wi m (x0 + 21) (Int32.toNatClampNeg (m.1 x0 49)) x1) (x0 + 22) (Int32.toNatClampNeg ((dc_wi m (x0 + 21) (Int32.toNatClampNeg (m.1 x0 49)) x1).1 x0 49)) (x2 &&& ((dc_wi m (x0 + 21) (Int32.toNatClampNeg (m.1 x0 49)) x1).2.1 x0 47))).1 x0 49)) q1) x0 49 (((dc_wi (dc_wl (dc_wi m (x0 + 21) (Int32.toNatClampNeg (m.1 x0 49)) x1) (x0 + 22) (Int32.toNatClampNeg ((dc_wi m (x0 + 21) (Int32.toNatClampNeg (m.1 x0 49)) x1).1 x0 49)) (x2 &&& ((dc_wi m (x0 + 21) (Int32.toNatClampNeg (m.1 x0 49)) x1).2.1 x0 47))) (x0 + 23) (Int32.toNatClampNeg ((dc_wl (dc_wi m (x0 + 21) (Int32.toNatClampNeg (m.1 x0 49)) x1) (x0 + 22) (Int32.toNatClampNeg ((dc_wi m (x0 + 21) (Int32.toNatClampNeg (m.1 x0 49)) x1).1 x0 49)) (x2 &&& ((dc_wi m (x0 + 21) (Int32.toNatClampNeg (m.1 x0 49)) x1).2.1 x0 47))).1 x0 49)) q1).1 x0 49) + (1 : Int32))) [] rfl (fun _ => rfl) rfl ?_
    refine dg_L (pc' := 183) [(1, .int (x1 + (1 : Int32))), (0, .ref x0), (2, .long x2), (4, .int x4)] [] rfl (fun _ => rfl) rfl ?_
    refine dw_s (pc' := 7) [] rfl (fun _ => rfl) ?_
    exact dw_j rfl (fun lv1 hv => k7 (x1 + (1 : Int32)) (dc_wi (dc_wi (dc_wl (dc_wi m (x0 + 21) (Int32.toNatClampNeg (m.1 x0 49)) x1) (x0 + 22) (Int32.toNatClampNeg ((dc_wi m (x0 + 21) (Int32.toNatClampNeg (m.1 x0 49)) x1).1 x0 49)) (x2 &&& ((dc_wi m (x0 + 21) (Int32.toNatClampNeg (m.1 x0 49)) x1).2.1 x0 47))) (x0 + 23) (Int32.toNatClampNeg ((dc_wl (dc_wi m (x0 + 21) (Int32.toNatClampNeg (m.1 x0 49)) x1) (x0 + 22) (Int32.toNatClampNeg ((dc_wi m (x0 + 21) (Int32.toNatClampNeg (m.1 x0 49)) x1).1 x0 49)) (x2 &&& ((dc_wi m (x0 + 21) (Int32.toNatClampNeg (m.1 x0 49)) x1).2.1 x0 47))).1 x0 49)) q1) x0 49 (((dc_wi (dc_wl (dc_wi m (x0 + 21) (Int32.toNatClampNeg (m.1 x0 49)) x1) (x0 + 22) (Int32.toNatClampNeg ((dc_wi m (x0 + 21) (Int32.toNatClampNeg (m.1 x0 49)) x1).1 x0 49)) (x2 &&& ((dc_wi m (x0 + 21) (Int32.toNatClampNeg (m.1 x0 49)) x1).2.1 x0 47))) (x0 + 23) (Int32.toNatClampNeg ((dc_wl (dc_wi m (x0 + 21) (Int32.toNatClampNeg (m.1 x0 49)) x1) (x0 + 22) (Int32.toNatClampNeg ((dc_wi m (x0 + 21) (Int32.toNatClampNeg (m.1 x0 49)) x1).1 x0 49)) (x2 &&& ((dc_wi m (x0 + 21) (Int32.toNatClampNeg (m.1 x0 49)) x1).2.1 x0 47))).1 x0 49)) q1).1 x0 49) + (1 : Int32))) lv1 (hv.1 _ rfl) (hv.2.1 _ rfl))
noncomputable def d_X10_layCubes_l56b (x0 : Nat) (x1 : Int32) (x2 : Int64) (x4 : Int32) (x5 : Int32) (x6 : Int32) (m : dc_M) : Option ((Int32 × Int32 × Int32) ⊕ ((Int32 × dc_M) ⊕ dc_M)) :=
  (if (Int32.toInt (m.1 x0 0)) ≤ (Int32.toInt x6) then ((d_X10_layCubes_b126 x0 x1 x2 x4 m).map (fun z => Sum.inr (z))) else (if (Int32.toInt x4) = 0 then ((d_X10_layCubes_b126 x0 x1 x2 x4 m).map (fun z => Sum.inr (z))) else (if (Int32.toInt ((x1 / x5) - (x1 / x5) / (3 : Int32) * (3 : Int32))) = 2 then some (Sum.inl ((1 : Int32), (x5 * (3 : Int32)), (x6 + (1 : Int32)))) else ((d_X10_levelsOf x0 (x1 + (((2 : Int32) - ((x1 / x5) - (x1 / x5) / (3 : Int32) * (3 : Int32))) * x5)) m).bind (fun q1 => (if (Int32.toInt (lg_cmp (q1 &&& (m.2.1 x0 48)) (0 : Int64))) = 0 then some (Sum.inl ((0 : Int32), (x5 * (3 : Int32)), (x6 + (1 : Int32)))) else some (Sum.inl ((1 : Int32), (x5 * (3 : Int32)), (x6 + (1 : Int32))))))))))
noncomputable def d_X10_layCubes_l56s (x0 : Nat) (x1 : Int32) (x2 : Int64) (m : dc_M) : (Int32 × Int32 × Int32) → Option ((Int32 × Int32 × Int32) ⊕ ((Int32 × dc_M) ⊕ dc_M)) := fun s => d_X10_layCubes_l56b x0 x1 x2 s.1 s.2.1 s.2.2 m
noncomputable def d_X10_layCubes_l56 (x0 : Nat) (x1 : Int32) (x2 : Int64) (x4 : Int32) (x5 : Int32) (x6 : Int32) (m : dc_M) : Option ((Int32 × dc_M) ⊕ dc_M) := dc_lp (d_X10_layCubes_l56s x0 x1 x2 m) (x4, x5, x6)
set_option maxHeartbeats 8000000 in
theorem k_X10_layCubes_l56 {u : Nat} {Φ : (Option ((Int32 × dc_M) ⊕ dc_M)) → Option Value → dc_M → Prop} (x0 : Nat) (x1 : Int32) (x2 : Int64) (m : dc_M) (kR : ∀  (m : dc_M), Φ (some (Sum.inr (m))) (none) m) : ∀ (N : Nat), (∀ (x1 : Int32) (m : dc_M) (lv : ab_L), ab_lk lv 0 = some (.ref x0) → ab_lk lv 1 = some (.int x1) →  dc_pv u N ab_M_X10_layCubes 7 lv [] m (Φ (some (Sum.inl (x1, m))))) → ∀ (x4 : Int32) (x5 : Int32) (x6 : Int32) (lv : ab_L), ab_lk lv 0 = some (.ref x0) → ab_lk lv 1 = some (.int x1) → ab_lk lv 2 = some (.long x2) → ab_lk lv 4 = some (.int x4) → ab_lk lv 5 = some (.int x5) → ab_lk lv 6 = some (.int x6) → dc_pv u N ab_M_X10_layCubes 56 lv [] m (Φ (d_X10_layCubes_l56 x0 x1 x2 x4 x5 x6 m)) := by
  intro N
  induction N with
  | zero => intros; exact dc_pv_zero
  | succ N ih =>
    intro k7 x4 x5 x6 lv f0 f1 f2 f4 f5 f6
    have k7 := fun a0 a1 a2 a3 a4 => (k7 a0 a1 a2 a3 a4).mono (Nat.le_succ N)
    have ih := ih k7
    refine dc_ok (C := C_X10_layCubes) (S := S_X10_layCubes) CO_X10_layCubes 400 56 [(0, .ref x0), (1, .int x1), (2, .long x2), (4, .int x4), (5, .int x5), (6, .int x6)] lv [] m (dc_sub_cons f0 (dc_sub_cons f1 (dc_sub_cons f2 (dc_sub_cons f4 (dc_sub_cons f5 (dc_sub_cons f6 (dc_sub_nil))))))) ?_
    unfold d_X10_layCubes_l56
    rw [dc_lp_eq]
    show (fun t x => dc_lf u N ab_M_X10_layCubes (Φ (Option.bind t (dc_bk (d_X10_layCubes_l56s x0 x1 x2 m)))) x) (d_X10_layCubes_l56b x0 x1 x2 x4 x5 x6 m) _
    dsimp only
    unfold d_X10_layCubes_l56b
    refine dg_s (pc' := 58) [.int x6] rfl (fun _ => rfl) rfl ?_
    refine dg_s (pc' := 59) [.ref x0, .int x6] rfl (fun _ => rfl) rfl ?_
    refine dg_s (pc' := 62) [.int (m.1 x0 0), .int x6] rfl (fun _ => rfl) rfl ?_
    refine dw_if (fun t => Φ (Option.bind t (dc_bk (d_X10_layCubes_l56s x0 x1 x2 m)))) ((Int32.toInt (m.1 x0 0)) ≤ (Int32.toInt x6)) [] 126 65 rfl (fun _ => rfl) (fun c0 => ?_) (fun c0 => ?_)
    · exact dw_j rfl (fun lv1 hv => k_X10_layCubes_b126 (Φ := (fun t => Φ (Option.bind (t.map (fun z => Sum.inr (z))) (dc_bk (d_X10_layCubes_l56s x0 x1 x2 m))))) x0 x1 x2 x4 m (fun _b => kR _b) k7 (hv.1 _ rfl) (hv.2.1 _ rfl) (hv.2.2.1 _ rfl) (hv.2.2.2.1 _ rfl))
    · refine dw_g rfl ?_
      refine dg_s (pc' := 67) [.int x4] rfl (fun _ => rfl) rfl ?_
      refine dw_if (fun t => Φ (Option.bind t (dc_bk (d_X10_layCubes_l56s x0 x1 x2 m)))) ((Int32.toInt x4) = 0) [] 126 70 rfl (fun _ => rfl) (fun c1 => ?_) (fun c1 => ?_)
      · exact dw_j rfl (fun lv1 hv => k_X10_layCubes_b126 (Φ := (fun t => Φ (Option.bind (t.map (fun z => Sum.inr (z))) (dc_bk (d_X10_layCubes_l56s x0 x1 x2 m))))) x0 x1 x2 x4 m (fun _b => kR _b) k7 (hv.1 _ rfl) (hv.2.1 _ rfl) (hv.2.2.1 _ rfl) (hv.2.2.2.1 _ rfl))
      · refine dw_g rfl ?_
        refine dg_s (pc' := 71) [.int x1] rfl (fun _ => rfl) rfl ?_
        refine dg_s (pc' := 73) [.int x5, .int x1] rfl (fun _ => rfl) rfl ?_
        refine dg_s (pc' := 74) [.int (x1 / x5)] rfl (fun _ => rfl) rfl ?_
        refine dg_s (pc' := 75) [.int (3 : Int32), .int (x1 / x5)] rfl (fun _ => rfl) rfl ?_
        refine dg_s (pc' := 76) [.int ((x1 / x5) - (x1 / x5) / (3 : Int32) * (3 : Int32))] rfl (fun _ => rfl) rfl ?_
        refine dg_L (pc' := 78) [(7, .int ((x1 / x5) - (x1 / x5) / (3 : Int32) * (3 : Int32))), (0, .ref x0), (1, .int x1), (2, .long x2), (4, .int x4), (5, .int x5), (6, .int x6)] [] rfl (fun _ => rfl) rfl ?_
        refine dg_s (pc' := 80) [.int ((x1 / x5) - (x1 / x5) / (3 : Int32) * (3 : Int32))] rfl (fun _ => rfl) rfl ?_
        refine dg_s (pc' := 81) [.int (2 : Int32), .int ((x1 / x5) - (x1 / x5) / (3 : Int32) * (3 : Int32))] rfl (fun _ => rfl) rfl ?_
        refine dw_if (fun t => Φ (Option.bind t (dc_bk (d_X10_layCubes_l56s x0 x1 x2 m)))) ((Int32.toInt ((x1 / x5) - (x1 / x5) / (3 : Int32) * (3 : Int32))) = 2) [] 107 84 rfl (fun _ => rfl) (fun c2 => ?_) (fun c2 => ?_)
        · refine dw_g rfl ?_
          refine dg_s (pc' := 108) [.int (1 : Int32)] rfl (fun _ => rfl) rfl ?_
          refine dg_s (pc' := 112) [.int (1 : Int32)] rfl (fun _ => rfl) rfl ?_
          refine dg_L (pc' := 114) [(4, .int (1 : Int32)), (7, .int ((x1 / x5) - (x1 / x5) / (3 : Int32) * (3 : Int32))), (0, .ref x0), (1, .int x1), (2, .long x2), (5, .int x5), (6, .int x6)] [] rfl (fun _ => rfl) rfl ?_
          refine dg_s (pc' := 116) [.int x5] rfl (fun _ => rfl) rfl ?_
          refine dg_s (pc' := 117) [.int (3 : Int32), .int x5] rfl (fun _ => rfl) rfl ?_
          refine dg_s (pc' := 118) [.int (x5 * (3 : Int32))] rfl (fun _ => rfl) rfl ?_
          refine dg_L (pc' := 120) [(5, .int (x5 * (3 : Int32))), (4, .int (1 : Int32)), (7, .int ((x1 / x5) - (x1 / x5) / (3 : Int32) * (3 : Int32))), (0, .ref x0), (1, .int x1), (2, .long x2), (6, .int x6)] [] rfl (fun _ => rfl) rfl ?_
          refine dg_L (pc' := 123) [(6, .int (x6 + (1 : Int32))), (5, .int (x5 * (3 : Int32))), (4, .int (1 : Int32)), (7, .int ((x1 / x5) - (x1 / x5) / (3 : Int32) * (3 : Int32))), (0, .ref x0), (1, .int x1), (2, .long x2)] [] rfl (fun _ => rfl) rfl ?_
          refine dw_s (pc' := 56) [] rfl (fun _ => rfl) ?_
          exact dw_j rfl (fun lv1 hv => ih (1 : Int32) (x5 * (3 : Int32)) (x6 + (1 : Int32)) lv1 (hv.1 _ rfl) (hv.2.1 _ rfl) (hv.2.2.1 _ rfl) (hv.2.2.2.1 _ rfl) (hv.2.2.2.2.1 _ rfl) (hv.2.2.2.2.2.1 _ rfl))
        · refine dw_g rfl ?_
          refine dg_s (pc' := 85) [.ref x0] rfl (fun _ => rfl) rfl ?_
          refine dg_s (pc' := 86) [.int x1, .ref x0] rfl (fun _ => rfl) rfl ?_
          refine dg_s (pc' := 87) [.int (2 : Int32), .int x1, .ref x0] rfl (fun _ => rfl) rfl ?_
          refine dg_s (pc' := 89) [.int ((x1 / x5) - (x1 / x5) / (3 : Int32) * (3 : Int32)), .int (2 : Int32), .int x1, .ref x0] rfl (fun _ => rfl) rfl ?_
          refine dg_s (pc' := 90) [.int ((2 : Int32) - ((x1 / x5) - (x1 / x5) / (3 : Int32) * (3 : Int32))), .int x1, .ref x0] rfl (fun _ => rfl) rfl ?_
          refine dg_s (pc' := 92) [.int x5, .int ((2 : Int32) - ((x1 / x5) - (x1 / x5) / (3 : Int32) * (3 : Int32))), .int x1, .ref x0] rfl (fun _ => rfl) rfl ?_
          refine dg_s (pc' := 93) [.int (((2 : Int32) - ((x1 / x5) - (x1 / x5) / (3 : Int32) * (3 : Int32))) * x5), .int x1, .ref x0] rfl (fun _ => rfl) rfl ?_
          refine dg_s (pc' := 94) [.int (x1 + (((2 : Int32) - ((x1 / x5) - (x1 / x5) / (3 : Int32) * (3 : Int32))) * x5)), .ref x0] rfl (fun _ => rfl) rfl ?_
          refine dw_b (fun t => Φ (Option.bind t (dc_bk (d_X10_layCubes_l56s x0 x1 x2 m)))) (pc' := 97) (fun q1 => [.long q1]) (fun q1 => m) rfl (fun _ => rfl) (fun q1 => ?_)
          refine dw_g rfl ?_
          refine dg_s (pc' := 98) [.ref x0, .long q1] rfl (fun _ => rfl) rfl ?_
          refine dg_s (pc' := 101) [.long (m.2.1 x0 48), .long q1] rfl (fun _ => rfl) rfl ?_
          refine dg_s (pc' := 102) [.long (q1 &&& (m.2.1 x0 48))] rfl (fun _ => rfl) rfl ?_
          refine dg_s (pc' := 103) [.long (0 : Int64), .long (q1 &&& (m.2.1 x0 48))] rfl (fun _ => rfl) rfl ?_
          refine dg_s (pc' := 104) [.int (lg_cmp (q1 &&& (m.2.1 x0 48)) (0 : Int64))] rfl (fun _ => rfl) rfl ?_
          refine dw_if (fun t => Φ (Option.bind t (dc_bk (d_X10_layCubes_l56s x0 x1 x2 m)))) ((Int32.toInt (lg_cmp (q1 &&& (m.2.1 x0 48)) (0 : Int64))) = 0) [] 111 107 rfl (fun _ => rfl) (fun c3 => ?_) (fun c3 => ?_)
          · refine dw_g rfl ?_
            refine dg_s (pc' := 112) [.int (0 : Int32)] rfl (fun _ => rfl) rfl ?_
            refine dg_L (pc' := 114) [(4, .int (0 : Int32)), (7, .int ((x1 / x5) - (x1 / x5) / (3 : Int32) * (3 : Int32))), (0, .ref x0), (1, .int x1), (2, .long x2), (5, .int x5), (6, .int x6)] [] rfl (fun _ => rfl) rfl ?_
            refine dg_s (pc' := 116) [.int x5] rfl (fun _ => rfl) rfl ?_
            refine dg_s (pc' := 117) [.int (3 : Int32), .int x5] rfl (fun _ => rfl) rfl ?_
            refine dg_s (pc' := 118) [.int (x5 * (3 : Int32))] rfl (fun _ => rfl) rfl ?_
            refine dg_L (pc' := 120) [(5, .int (x5 * (3 : Int32))), (4, .int (0 : Int32)), (7, .int ((x1 / x5) - (x1 / x5) / (3 : Int32) * (3 : Int32))), (0, .ref x0), (1, .int x1), (2, .long x2), (6, .int x6)] [] rfl (fun _ => rfl) rfl ?_
            refine dg_L (pc' := 123) [(6, .int (x6 + (1 : Int32))), (5, .int (x5 * (3 : Int32))), (4, .int (0 : Int32)), (7, .int ((x1 / x5) - (x1 / x5) / (3 : Int32) * (3 : Int32))), (0, .ref x0), (1, .int x1), (2, .long x2)] [] rfl (fun _ => rfl) rfl ?_
            refine dw_s (pc' := 56) [] rfl (fun _ => rfl) ?_
            exact dw_j rfl (fun lv1 hv => ih (0 : Int32) (x5 * (3 : Int32)) (x6 + (1 : Int32)) lv1 (hv.1 _ rfl) (hv.2.1 _ rfl) (hv.2.2.1 _ rfl) (hv.2.2.2.1 _ rfl) (hv.2.2.2.2.1 _ rfl) (hv.2.2.2.2.2.1 _ rfl))
          · refine dw_g rfl ?_
            refine dg_s (pc' := 108) [.int (1 : Int32)] rfl (fun _ => rfl) rfl ?_
            refine dg_s (pc' := 112) [.int (1 : Int32)] rfl (fun _ => rfl) rfl ?_
            refine dg_L (pc' := 114) [(4, .int (1 : Int32)), (7, .int ((x1 / x5) - (x1 / x5) / (3 : Int32) * (3 : Int32))), (0, .ref x0), (1, .int x1), (2, .long x2), (5, .int x5), (6, .int x6)] [] rfl (fun _ => rfl) rfl ?_
            refine dg_s (pc' := 116) [.int x5] rfl (fun _ => rfl) rfl ?_
            refine dg_s (pc' := 117) [.int (3 : Int32), .int x5] rfl (fun _ => rfl) rfl ?_
            refine dg_s (pc' := 118) [.int (x5 * (3 : Int32))] rfl (fun _ => rfl) rfl ?_
            refine dg_L (pc' := 120) [(5, .int (x5 * (3 : Int32))), (4, .int (1 : Int32)), (7, .int ((x1 / x5) - (x1 / x5) / (3 : Int32) * (3 : Int32))), (0, .ref x0), (1, .int x1), (2, .long x2), (6, .int x6)] [] rfl (fun _ => rfl) rfl ?_
            refine dg_L (pc' := 123) [(6, .int (x6 + (1 : Int32))), (5, .int (x5 * (3 : Int32))), (4, .int (1 : Int32)), (7, .int ((x1 / x5) - (x1 / x5) / (3 : Int32) * (3 : Int32))), (0, .ref x0), (1, .int x1), (2, .long x2)] [] rfl (fun _ => rfl) rfl ?_
            refine dw_s (pc' := 56) [] rfl (fun _ => rfl) ?_
            exact dw_j rfl (fun lv1 hv => ih (1 : Int32) (x5 * (3 : Int32)) (x6 + (1 : Int32)) lv1 (hv.1 _ rfl) (hv.2.1 _ rfl) (hv.2.2.1 _ rfl) (hv.2.2.2.1 _ rfl) (hv.2.2.2.2.1 _ rfl) (hv.2.2.2.2.2.1 _ rfl))
noncomputable def d_X10_layCubes_l7b (x0 : Nat) (x1 : Int32) (m : dc_M) : Option ((Int32 × dc_M) ⊕ dc_M) :=
  ((d_X10_cubeAll x0 m).bind (fun q1 => (if (Int32.toInt q1) ≤ (Int32.toInt x1) then some (Sum.inr (m)) else ((d_X10_levelsOf x0 x1 m).bind (fun q2 => (if ¬ (Int32.toInt (lg_cmp (q2 &&& (m.2.1 x0 48)) (0 : Int64))) = 0 then (d_X10_layCubes_l56 x0 x1 q2 (0 : Int32) (1 : Int32) (0 : Int32) m) else (if (Int32.toInt (lg_cmp (q2 &&& (m.2.1 x0 47)) (0 : Int64))) = 0 then (d_X10_layCubes_l56 x0 x1 q2 (0 : Int32) (1 : Int32) (0 : Int32) m) else (d_X10_layCubes_l56 x0 x1 q2 (1 : Int32) (1 : Int32) (0 : Int32) m))))))))
noncomputable def d_X10_layCubes_l7s (x0 : Nat) : (Int32 × dc_M) → Option ((Int32 × dc_M) ⊕ dc_M) := fun s => d_X10_layCubes_l7b x0 s.1 s.2
noncomputable def d_X10_layCubes_l7 (x0 : Nat) (x1 : Int32) (m : dc_M) : Option dc_M := dc_lp (d_X10_layCubes_l7s x0) (x1, m)
set_option maxHeartbeats 8000000 in
theorem k_X10_layCubes_l7 {u : Nat} {Φ : (Option dc_M) → Option Value → dc_M → Prop} (x0 : Nat) (kR : ∀  (m : dc_M), Φ (some (m)) (none) m) : ∀ (N : Nat), ∀ (x1 : Int32) (m : dc_M) (lv : ab_L), ab_lk lv 0 = some (.ref x0) → ab_lk lv 1 = some (.int x1) → dc_pv u N ab_M_X10_layCubes 7 lv [] m (Φ (d_X10_layCubes_l7 x0 x1 m)) := by
  intro N
  induction N with
  | zero => intros; exact dc_pv_zero
  | succ N ih =>
    intro x1 m lv f0 f1
    refine dc_ok (C := C_X10_layCubes) (S := S_X10_layCubes) CO_X10_layCubes 400 7 [(0, .ref x0), (1, .int x1)] lv [] m (dc_sub_cons f0 (dc_sub_cons f1 (dc_sub_nil))) ?_
    unfold d_X10_layCubes_l7
    rw [dc_lp_eq]
    show (fun t x => dc_lf u N ab_M_X10_layCubes (Φ (Option.bind t (dc_bk (d_X10_layCubes_l7s x0)))) x) (d_X10_layCubes_l7b x0 x1 m) _
    dsimp only
    unfold d_X10_layCubes_l7b
    refine dg_s (pc' := 8) [.int x1] rfl (fun _ => rfl) rfl ?_
    refine dg_s (pc' := 9) [.ref x0, .int x1] rfl (fun _ => rfl) rfl ?_
    refine dw_b (fun t => Φ (Option.bind t (dc_bk (d_X10_layCubes_l7s x0)))) (pc' := 12) (fun q1 => [.int q1, .int x1]) (fun q1 => m) rfl (fun _ => rfl) (fun q1 => ?_)
    refine dw_g rfl ?_
    refine dw_if (fun t => Φ (Option.bind t (dc_bk (d_X10_layCubes_l7s x0)))) ((Int32.toInt q1) ≤ (Int32.toInt x1)) [] 186 15 rfl (fun _ => rfl) (fun c0 => ?_) (fun c0 => ?_)
    · refine dw_g rfl ?_
      exact dw_r (some (.inl (none, m))) rfl (fun _ => rfl) (kR _)
    · refine dw_g rfl ?_
      refine dg_s (pc' := 16) [.ref x0] rfl (fun _ => rfl) rfl ?_
      refine dg_s (pc' := 17) [.int x1, .ref x0] rfl (fun _ => rfl) rfl ?_
      refine dw_b (fun t => Φ (Option.bind t (dc_bk (d_X10_layCubes_l7s x0)))) (pc' := 20) (fun q2 => [.long q2]) (fun q2 => m) rfl (fun _ => rfl) (fun q2 => ?_)
      refine dw_g rfl ?_
      refine dg_L (pc' := 21) [(2, .long q2), (0, .ref x0), (1, .int x1)] [] rfl (fun _ => rfl) rfl ?_
      refine dg_s (pc' := 22) [.long q2] rfl (fun _ => rfl) rfl ?_
      refine dg_s (pc' := 23) [.ref x0, .long q2] rfl (fun _ => rfl) rfl ?_
      refine dg_s (pc' := 26) [.long (m.2.1 x0 48), .long q2] rfl (fun _ => rfl) rfl ?_
      refine dg_s (pc' := 27) [.long (q2 &&& (m.2.1 x0 48))] rfl (fun _ => rfl) rfl ?_
      refine dg_s (pc' := 28) [.long (0 : Int64), .long (q2 &&& (m.2.1 x0 48))] rfl (fun _ => rfl) rfl ?_
      refine dg_s (pc' := 29) [.int (lg_cmp (q2 &&& (m.2.1 x0 48)) (0 : Int64))] rfl (fun _ => rfl) rfl ?_
      refine dw_if (fun t => Φ (Option.bind t (dc_bk (d_X10_layCubes_l7s x0)))) (¬ (Int32.toInt (lg_cmp (q2 &&& (m.2.1 x0 48)) (0 : Int64))) = 0) [] 47 32 rfl (fun _ => rfl) (fun c1 => ?_) (fun c1 => ?_)
      · refine dw_g rfl ?_
        refine dg_s (pc' := 48) [.int (0 : Int32)] rfl (fun _ => rfl) rfl ?_
        refine dg_L (pc' := 50) [(4, .int (0 : Int32)), (2, .long q2), (0, .ref x0), (1, .int x1)] [] rfl (fun _ => rfl) rfl ?_
        refine dg_s (pc' := 51) [.int (1 : Int32)] rfl (fun _ => rfl) rfl ?_
        refine dg_L (pc' := 53) [(5, .int (1 : Int32)), (4, .int (0 : Int32)), (2, .long q2), (0, .ref x0), (1, .int x1)] [] rfl (fun _ => rfl) rfl ?_
        refine dg_s (pc' := 54) [.int (0 : Int32)] rfl (fun _ => rfl) rfl ?_
        refine dw_L (pc' := 56) [(6, .int (0 : Int32)), (5, .int (1 : Int32)), (4, .int (0 : Int32)), (2, .long q2), (0, .ref x0), (1, .int x1)] [] rfl (fun _ => rfl) ?_
        exact dw_j rfl (fun lv1 hv => k_X10_layCubes_l56 (Φ := (fun t => Φ (Option.bind t (dc_bk (d_X10_layCubes_l7s x0))))) x0 x1 q2 m (fun _b => kR _b) N ih (0 : Int32) (1 : Int32) (0 : Int32) lv1 (hv.1 _ rfl) (hv.2.1 _ rfl) (hv.2.2.1 _ rfl) (hv.2.2.2.1 _ rfl) (hv.2.2.2.2.1 _ rfl) (hv.2.2.2.2.2.1 _ rfl))
      · refine dw_g rfl ?_
        refine dg_s (pc' := 33) [.long q2] rfl (fun _ => rfl) rfl ?_
        refine dg_s (pc' := 34) [.ref x0, .long q2] rfl (fun _ => rfl) rfl ?_
        refine dg_s (pc' := 37) [.long (m.2.1 x0 47), .long q2] rfl (fun _ => rfl) rfl ?_
        refine dg_s (pc' := 38) [.long (q2 &&& (m.2.1 x0 47))] rfl (fun _ => rfl) rfl ?_
        refine dg_s (pc' := 39) [.long (0 : Int64), .long (q2 &&& (m.2.1 x0 47))] rfl (fun _ => rfl) rfl ?_
        refine dg_s (pc' := 40) [.int (lg_cmp (q2 &&& (m.2.1 x0 47)) (0 : Int64))] rfl (fun _ => rfl) rfl ?_
        refine dw_if (fun t => Φ (Option.bind t (dc_bk (d_X10_layCubes_l7s x0)))) ((Int32.toInt (lg_cmp (q2 &&& (m.2.1 x0 47)) (0 : Int64))) = 0) [] 47 43 rfl (fun _ => rfl) (fun c2 => ?_) (fun c2 => ?_)
        · refine dw_g rfl ?_
          refine dg_s (pc' := 48) [.int (0 : Int32)] rfl (fun _ => rfl) rfl ?_
          refine dg_L (pc' := 50) [(4, .int (0 : Int32)), (2, .long q2), (0, .ref x0), (1, .int x1)] [] rfl (fun _ => rfl) rfl ?_
          refine dg_s (pc' := 51) [.int (1 : Int32)] rfl (fun _ => rfl) rfl ?_
          refine dg_L (pc' := 53) [(5, .int (1 : Int32)), (4, .int (0 : Int32)), (2, .long q2), (0, .ref x0), (1, .int x1)] [] rfl (fun _ => rfl) rfl ?_
          refine dg_s (pc' := 54) [.int (0 : Int32)] rfl (fun _ => rfl) rfl ?_
          refine dw_L (pc' := 56) [(6, .int (0 : Int32)), (5, .int (1 : Int32)), (4, .int (0 : Int32)), (2, .long q2), (0, .ref x0), (1, .int x1)] [] rfl (fun _ => rfl) ?_
          exact dw_j rfl (fun lv1 hv => k_X10_layCubes_l56 (Φ := (fun t => Φ (Option.bind t (dc_bk (d_X10_layCubes_l7s x0))))) x0 x1 q2 m (fun _b => kR _b) N ih (0 : Int32) (1 : Int32) (0 : Int32) lv1 (hv.1 _ rfl) (hv.2.1 _ rfl) (hv.2.2.1 _ rfl) (hv.2.2.2.1 _ rfl) (hv.2.2.2.2.1 _ rfl) (hv.2.2.2.2.2.1 _ rfl))
        · refine dw_g rfl ?_
          refine dg_s (pc' := 44) [.int (1 : Int32)] rfl (fun _ => rfl) rfl ?_
          refine dg_s (pc' := 48) [.int (1 : Int32)] rfl (fun _ => rfl) rfl ?_
          refine dg_L (pc' := 50) [(4, .int (1 : Int32)), (2, .long q2), (0, .ref x0), (1, .int x1)] [] rfl (fun _ => rfl) rfl ?_
          refine dg_s (pc' := 51) [.int (1 : Int32)] rfl (fun _ => rfl) rfl ?_
          refine dg_L (pc' := 53) [(5, .int (1 : Int32)), (4, .int (1 : Int32)), (2, .long q2), (0, .ref x0), (1, .int x1)] [] rfl (fun _ => rfl) rfl ?_
          refine dg_s (pc' := 54) [.int (0 : Int32)] rfl (fun _ => rfl) rfl ?_
          refine dw_L (pc' := 56) [(6, .int (0 : Int32)), (5, .int (1 : Int32)), (4, .int (1 : Int32)), (2, .long q2), (0, .ref x0), (1, .int x1)] [] rfl (fun _ => rfl) ?_
          exact dw_j rfl (fun lv1 hv => k_X10_layCubes_l56 (Φ := (fun t => Φ (Option.bind t (dc_bk (d_X10_layCubes_l7s x0))))) x0 x1 q2 m (fun _b => kR _b) N ih (1 : Int32) (1 : Int32) (0 : Int32) lv1 (hv.1 _ rfl) (hv.2.1 _ rfl) (hv.2.2.1 _ rfl) (hv.2.2.2.1 _ rfl) (hv.2.2.2.2.1 _ rfl) (hv.2.2.2.2.2.1 _ rfl))
noncomputable def d_X10_layCubes (x0 : Nat) (m : dc_M) : Option dc_M :=
  (d_X10_layCubes_l7 x0 (0 : Int32) (dc_wi m x0 49 (0 : Int32)))
set_option maxHeartbeats 8000000 in
theorem k_X10_layCubes {u : Nat} {N : Nat} {Φ : (Option dc_M) → Option Value → dc_M → Prop} (x0 : Nat) (m : dc_M) (kR : ∀  (m : dc_M), Φ (some (m)) (none) m)  {lv : ab_L} (f0 : ab_lk lv 0 = some (.ref x0)) : dc_pv u N ab_M_X10_layCubes 0 lv [] m (Φ (d_X10_layCubes x0 m)) := by
  refine dc_pv.mono (dc_ok (C := C_X10_layCubes) (S := S_X10_layCubes) CO_X10_layCubes 400 0 [(0, .ref x0)] lv [] m (dc_sub_cons f0 (dc_sub_nil)) ?_) (Nat.le_succ N)
  unfold d_X10_layCubes
  refine dg_s (pc' := 1) [.ref x0] rfl (fun _ => rfl) rfl ?_
  refine dg_s (pc' := 2) [.int (0 : Int32), .ref x0] rfl (fun _ => rfl) rfl ?_
  refine dg_m (pc' := 5) (dc_wi m x0 49 (0 : Int32)) [] rfl (fun _ => rfl) rfl ?_
  refine dg_s (pc' := 6) [.int (0 : Int32)] rfl (fun _ => rfl) rfl ?_
  refine dw_L (pc' := 7) [(1, .int (0 : Int32)), (0, .ref x0)] [] rfl (fun _ => rfl) ?_
  exact dw_j rfl (fun lv1 hv => k_X10_layCubes_l7 (Φ := (fun t => Φ t)) x0 (fun _b => kR _b) N  (0 : Int32) (dc_wi m x0 49 (0 : Int32)) lv1 (hv.1 _ rfl) (hv.2.1 _ rfl))
noncomputable def H_X10_layCubes : dc_H := fun As m k => match As with
  | [.ref x0] => (d_X10_layCubes x0 m).bind (fun q => k (none) q)
  | _ => dc_kz
theorem H_X10_layCubes_ok {u : Nat} : dc_cok u 193 H_X10_layCubes := fun M' hG N As m k P hz hP => by
  obtain rfl : ab_M_X10_layCubes = M' := Option.some.inj hG
  unfold H_X10_layCubes at hP
  split at hP
  · rename_i x0
    exact dc_pv.imp (k_X10_layCubes (Φ := fun (t : Option dc_M) r m' => P (t.bind (fun q => k (none) q)) → P (k r m')) x0 m (fun _ h => h) rfl) (fun r m' h => h hP)
  · exact absurd hP hz
def C_X10_isHopeless : List (Nat × dc_H) := []
theorem CO_X10_isHopeless {u : Nat} : dc_CO u C_X10_isHopeless := dc_CO_nil
def S_X10_isHopeless : List (Nat × List Nat) := [(12, [0, 3, 4, 5, 7, 8, 9]), (47, [0, 3, 4, 5, 7, 8, 9, 10, 11, 13]), (144, [3, 4, 7, 8])]
noncomputable def d_X10_isHopeless_b144 (x3 : Int32) (x4 : Int32) (x7 : Int32) (x8 : Int32) (m : dc_M) : Option Int32 :=
  (if (Int32.toInt x3) < (Int32.toInt x7) then some ((1 : Int32)) else (if (Int32.toInt x8) ≤ (Int32.toInt x4) then some ((0 : Int32)) else some ((1 : Int32))))
set_option maxHeartbeats 8000000 in
theorem k_X10_isHopeless_b144 {u : Nat} {N : Nat} {Φ : (Option Int32) → Option Value → dc_M → Prop} (x3 : Int32) (x4 : Int32) (x7 : Int32) (x8 : Int32) (m : dc_M) (kR : ∀ (v : Int32), Φ (some (v)) (some (.int v)) m)  {lv : ab_L} (f3 : ab_lk lv 3 = some (.int x3)) (f4 : ab_lk lv 4 = some (.int x4)) (f7 : ab_lk lv 7 = some (.int x7)) (f8 : ab_lk lv 8 = some (.int x8)) : dc_pv u N ab_M_X10_isHopeless 144 lv [] m (Φ (d_X10_isHopeless_b144 x3 x4 x7 x8 m)) := by
  refine dc_pv.mono (dc_ok (C := C_X10_isHopeless) (S := S_X10_isHopeless) CO_X10_isHopeless 400 144 [(3, .int x3), (4, .int x4), (7, .int x7), (8, .int x8)] lv [] m (dc_sub_cons f3 (dc_sub_cons f4 (dc_sub_cons f7 (dc_sub_cons f8 (dc_sub_nil))))) ?_) (Nat.le_succ N)
  unfold d_X10_isHopeless_b144
  refine dg_s (pc' := 146) [.int x7] rfl (fun _ => rfl) rfl ?_
  refine dg_s (pc' := 147) [.int x3, .int x7] rfl (fun _ => rfl) rfl ?_
  refine dw_if (fun t => Φ t) ((Int32.toInt x3) < (Int32.toInt x7)) [] 157 150 rfl (fun _ => rfl) (fun c0 => ?_) (fun c0 => ?_)
  · refine dw_g rfl ?_
    refine dg_s (pc' := 158) [.int (1 : Int32)] rfl (fun _ => rfl) rfl ?_
    refine dg_s (pc' := 162) [.int (1 : Int32)] rfl (fun _ => rfl) rfl ?_
    exact dw_r (some (.inl (some (.int (1 : Int32)), m))) rfl (fun _ => rfl) (kR _)
  · refine dw_g rfl ?_
    refine dg_s (pc' := 152) [.int x8] rfl (fun _ => rfl) rfl ?_
    refine dg_s (pc' := 154) [.int x4, .int x8] rfl (fun _ => rfl) rfl ?_
    refine dw_if (fun t => Φ t) ((Int32.toInt x8) ≤ (Int32.toInt x4)) [] 161 157 rfl (fun _ => rfl) (fun c1 => ?_) (fun c1 => ?_)
    · refine dw_g rfl ?_
      refine dg_s (pc' := 162) [.int (0 : Int32)] rfl (fun _ => rfl) rfl ?_
      exact dw_r (some (.inl (some (.int (0 : Int32)), m))) rfl (fun _ => rfl) (kR _)
    · refine dw_g rfl ?_
      refine dg_s (pc' := 158) [.int (1 : Int32)] rfl (fun _ => rfl) rfl ?_
      refine dg_s (pc' := 162) [.int (1 : Int32)] rfl (fun _ => rfl) rfl ?_
      exact dw_r (some (.inl (some (.int (1 : Int32)), m))) rfl (fun _ => rfl) (kR _)
noncomputable def d_X10_isHopeless_l47b (x0 : Nat) (x3 : Int32) (x4 : Int32) (x5 : Int64) (x7 : Int32) (x8 : Int32) (x9 : Int32) (x10 : Int32) (x11 : Int64) (x13 : Int32) (m : dc_M) : Option ((Int32 × Int64 × Int32) ⊕ ((Int64 × Int32 × Int32 × Int32) ⊕ Int32)) :=
  (if (Int32.toInt (m.1 x0 49)) ≤ (Int32.toInt x13) then some (Sum.inr (Sum.inl ((x5 &&& (x11 ^^^ (-1 : Int64))), (x7 + (1 : Int32)), (x8 + x10), (x9 + (1 : Int32))))) else (if ¬ (Int32.toInt (lg_cmp (((m.2.1 (x0 + 22) (Int32.toNatClampNeg x13)) >>> (Int32.toInt64 x9 &&& 63)) &&& (1 : Int64)) (1 : Int64))) = 0 then some (Sum.inl (x10, x11, (x13 + (1 : Int32)))) else (if (Int32.toInt x10) ≤ (Int32.toInt (m.1 (x0 + 23) (Int32.toNatClampNeg x13))) then some (Sum.inl (x10, (x11 ||| (m.2.1 (x0 + 22) (Int32.toNatClampNeg x13))), (x13 + (1 : Int32)))) else some (Sum.inl ((m.1 (x0 + 23) (Int32.toNatClampNeg x13)), (x11 ||| (m.2.1 (x0 + 22) (Int32.toNatClampNeg x13))), (x13 + (1 : Int32)))))))
noncomputable def d_X10_isHopeless_l47s (x0 : Nat) (x3 : Int32) (x4 : Int32) (x5 : Int64) (x7 : Int32) (x8 : Int32) (x9 : Int32) (m : dc_M) : (Int32 × Int64 × Int32) → Option ((Int32 × Int64 × Int32) ⊕ ((Int64 × Int32 × Int32 × Int32) ⊕ Int32)) := fun s => d_X10_isHopeless_l47b x0 x3 x4 x5 x7 x8 x9 s.1 s.2.1 s.2.2 m
noncomputable def d_X10_isHopeless_l47 (x0 : Nat) (x3 : Int32) (x4 : Int32) (x5 : Int64) (x7 : Int32) (x8 : Int32) (x9 : Int32) (x10 : Int32) (x11 : Int64) (x13 : Int32) (m : dc_M) : Option ((Int64 × Int32 × Int32 × Int32) ⊕ Int32) := dc_lp (d_X10_isHopeless_l47s x0 x3 x4 x5 x7 x8 x9 m) (x10, x11, x13)
set_option maxHeartbeats 8000000 in
theorem k_X10_isHopeless_l47 {u : Nat} {Φ : (Option ((Int64 × Int32 × Int32 × Int32) ⊕ Int32)) → Option Value → dc_M → Prop} (x0 : Nat) (x3 : Int32) (x4 : Int32) (x5 : Int64) (x7 : Int32) (x8 : Int32) (x9 : Int32) (m : dc_M) (kR : ∀ (v : Int32), Φ (some (Sum.inr (v))) (some (.int v)) m) : ∀ (N : Nat), (∀ (x5 : Int64) (x7 : Int32) (x8 : Int32) (x9 : Int32) (lv : ab_L), ab_lk lv 0 = some (.ref x0) → ab_lk lv 3 = some (.int x3) → ab_lk lv 4 = some (.int x4) → ab_lk lv 5 = some (.long x5) → ab_lk lv 7 = some (.int x7) → ab_lk lv 8 = some (.int x8) → ab_lk lv 9 = some (.int x9) →  dc_pv u N ab_M_X10_isHopeless 12 lv [] m (Φ (some (Sum.inl (x5, x7, x8, x9))))) → ∀ (x10 : Int32) (x11 : Int64) (x13 : Int32) (lv : ab_L), ab_lk lv 0 = some (.ref x0) → ab_lk lv 3 = some (.int x3) → ab_lk lv 4 = some (.int x4) → ab_lk lv 5 = some (.long x5) → ab_lk lv 7 = some (.int x7) → ab_lk lv 8 = some (.int x8) → ab_lk lv 9 = some (.int x9) → ab_lk lv 10 = some (.int x10) → ab_lk lv 11 = some (.long x11) → ab_lk lv 13 = some (.int x13) → dc_pv u N ab_M_X10_isHopeless 47 lv [] m (Φ (d_X10_isHopeless_l47 x0 x3 x4 x5 x7 x8 x9 x10 x11 x13 m)) := by
  intro N
  induction N with
  | zero => intros; exact dc_pv_zero
  | succ N ih =>
    intro k12 x10 x11 x13 lv f0 f3 f4 f5 f7 f8 f9 f10 f11 f13
    have k12 := fun a0 a1 a2 a3 a4 a5 a6 a7 a8 a9 a10 a11 => (k12 a0 a1 a2 a3 a4 a5 a6 a7 a8 a9 a10 a11).mono (Nat.le_succ N)
    have ih := ih k12
    refine dc_ok (C := C_X10_isHopeless) (S := S_X10_isHopeless) CO_X10_isHopeless 400 47 [(0, .ref x0), (3, .int x3), (4, .int x4), (5, .long x5), (7, .int x7), (8, .int x8), (9, .int x9), (10, .int x10), (11, .long x11), (13, .int x13)] lv [] m (dc_sub_cons f0 (dc_sub_cons f3 (dc_sub_cons f4 (dc_sub_cons f5 (dc_sub_cons f7 (dc_sub_cons f8 (dc_sub_cons f9 (dc_sub_cons f10 (dc_sub_cons f11 (dc_sub_cons f13 (dc_sub_nil))))))))))) ?_
    unfold d_X10_isHopeless_l47
    rw [dc_lp_eq]
    show (fun t x => dc_lf u N ab_M_X10_isHopeless (Φ (Option.bind t (dc_bk (d_X10_isHopeless_l47s x0 x3 x4 x5 x7 x8 x9 m)))) x) (d_X10_isHopeless_l47b x0 x3 x4 x5 x7 x8 x9 x10 x11 x13 m) _
    dsimp only
    unfold d_X10_isHopeless_l47b
    refine dg_s (pc' := 49) [.int x13] rfl (fun _ => rfl) rfl ?_
    refine dg_s (pc' := 50) [.ref x0, .int x13] rfl (fun _ => rfl) rfl ?_
    refine dg_s (pc' := 53) [.int (m.1 x0 49), .int x13] rfl (fun _ => rfl) rfl ?_
    refine dw_if (fun t => Φ (Option.bind t (dc_bk (d_X10_isHopeless_l47s x0 x3 x4 x5 x7 x8 x9 m)))) ((Int32.toInt (m.1 x0 49)) ≤ (Int32.toInt x13)) [] 117 56 rfl (fun _ => rfl) (fun c0 => ?_) (fun c0 => ?_)
    · refine dw_g rfl ?_
      refine dg_s (pc' := 119) [.long x5] rfl (fun _ => rfl) rfl ?_
      refine dg_s (pc' := 121) [.long x11, .long x5] rfl (fun _ => rfl) rfl ?_
      refine dg_s (pc' := 124) [.long (-1 : Int64), .long x11, .long x5] rfl (fun _ => rfl) rfl ?_
      refine dg_s (pc' := 125) [.long (x11 ^^^ (-1 : Int64)), .long x5] rfl (fun _ => rfl) rfl ?_
      refine dg_s (pc' := 126) [.long (x5 &&& (x11 ^^^ (-1 : Int64)))] rfl (fun _ => rfl) rfl ?_
      refine dg_L (pc' := 128) [(5, .long (x5 &&& (x11 ^^^ (-1 : Int64)))), (0, .ref x0), (3, .int x3), (4, .int x4), (7, .int x7), (8, .int x8), (9, .int x9), (10, .int x10), (11, .long x11), (13, .int x13)] [] rfl (fun _ => rfl) rfl ?_
      refine dg_L (pc' := 131) [(7, .int (x7 + (1 : Int32))), (5, .long (x5 &&& (x11 ^^^ (-1 : Int64)))), (0, .ref x0), (3, .int x3), (4, .int x4), (8, .int x8), (9, .int x9), (10, .int x10), (11, .long x11), (13, .int x13)] [] rfl (fun _ => rfl) rfl ?_
      refine dg_s (pc' := 133) [.int x8] rfl (fun _ => rfl) rfl ?_
      refine dg_s (pc' := 135) [.int x10, .int x8] rfl (fun _ => rfl) rfl ?_
      refine dg_s (pc' := 136) [.int (x8 + x10)] rfl (fun _ => rfl) rfl ?_
      refine dg_L (pc' := 138) [(8, .int (x8 + x10)), (7, .int (x7 + (1 : Int32))), (5, .long (x5 &&& (x11 ^^^ (-1 : Int64)))), (0, .ref x0), (3, .int x3), (4, .int x4), (9, .int x9), (10, .int x10), (11, .long x11), (13, .int x13)] [] rfl (fun _ => rfl) rfl ?_
      refine dg_L (pc' := 141) [(9, .int (x9 + (1 : Int32))), (8, .int (x8 + x10)), (7, .int (x7 + (1 : Int32))), (5, .long (x5 &&& (x11 ^^^ (-1 : Int64)))), (0, .ref x0), (3, .int x3), (4, .int x4), (10, .int x10), (11, .long x11), (13, .int x13)] [] rfl (fun _ => rfl) rfl ?_
      refine dw_s (pc' := 12) [] rfl (fun _ => rfl) ?_
      exact dw_j rfl (fun lv1 hv => k12 (x5 &&& (x11 ^^^ (-1 : Int64))) (x7 + (1 : Int32)) (x8 + x10) (x9 + (1 : Int32)) lv1 (hv.1 _ rfl) (hv.2.1 _ rfl) (hv.2.2.1 _ rfl) (hv.2.2.2.1 _ rfl) (hv.2.2.2.2.1 _ rfl) (hv.2.2.2.2.2.1 _ rfl) (hv.2.2.2.2.2.2.1 _ rfl))
    · refine dw_g rfl ?_
      refine dg_s (pc' := 57) [.ref x0] rfl (fun _ => rfl) rfl ?_
      refine dg_s (pc' := 60) [.ref (x0 + 22)] rfl (fun _ => rfl) rfl ?_
      refine dg_s (pc' := 62) [.int x13, .ref (x0 + 22)] rfl (fun _ => rfl) rfl ?_
      refine dg_s (pc' := 63) [.long (m.2.1 (x0 + 22) (Int32.toNatClampNeg x13))] rfl (fun _ => rfl) rfl ?_
      refine dg_s (pc' := 65) [.int x9, .long (m.2.1 (x0 + 22) (Int32.toNatClampNeg x13))] rfl (fun _ => rfl) rfl ?_
      refine dg_s (pc' := 66) [.long ((m.2.1 (x0 + 22) (Int32.toNatClampNeg x13)) >>> (Int32.toInt64 x9 &&& 63))] rfl (fun _ => rfl) rfl ?_
      refine dg_s (pc' := 67) [.long (1 : Int64), .long ((m.2.1 (x0 + 22) (Int32.toNatClampNeg x13)) >>> (Int32.toInt64 x9 &&& 63))] rfl (fun _ => rfl) rfl ?_
      refine dg_s (pc' := 68) [.long (((m.2.1 (x0 + 22) (Int32.toNatClampNeg x13)) >>> (Int32.toInt64 x9 &&& 63)) &&& (1 : Int64))] rfl (fun _ => rfl) rfl ?_
      refine dg_s (pc' := 69) [.long (1 : Int64), .long (((m.2.1 (x0 + 22) (Int32.toNatClampNeg x13)) >>> (Int32.toInt64 x9 &&& 63)) &&& (1 : Int64))] rfl (fun _ => rfl) rfl ?_
      refine dg_s (pc' := 70) [.int (lg_cmp (((m.2.1 (x0 + 22) (Int32.toNatClampNeg x13)) >>> (Int32.toInt64 x9 &&& 63)) &&& (1 : Int64)) (1 : Int64))] rfl (fun _ => rfl) rfl ?_
      refine dw_if (fun t => Φ (Option.bind t (dc_bk (d_X10_isHopeless_l47s x0 x3 x4 x5 x7 x8 x9 m)))) (¬ (Int32.toInt (lg_cmp (((m.2.1 (x0 + 22) (Int32.toNatClampNeg x13)) >>> (Int32.toInt64 x9 &&& 63)) &&& (1 : Int64)) (1 : Int64))) = 0) [] 111 73 rfl (fun _ => rfl) (fun c1 => ?_) (fun c1 => ?_)
      · refine dw_g rfl ?_
        refine dg_L (pc' := 114) [(13, .int (x13 + (1 : Int32))), (0, .ref x0), (3, .int x3), (4, .int x4), (5, .long x5), (7, .int x7), (8, .int x8), (9, .int x9), (10, .int x10), (11, .long x11)] [] rfl (fun _ => rfl) rfl ?_
        refine dw_s (pc' := 47) [] rfl (fun _ => rfl) ?_
        exact dw_j rfl (fun lv1 hv => ih x10 x11 (x13 + (1 : Int32)) lv1 (hv.1 _ rfl) (hv.2.1 _ rfl) (hv.2.2.1 _ rfl) (hv.2.2.2.1 _ rfl) (hv.2.2.2.2.1 _ rfl) (hv.2.2.2.2.2.1 _ rfl) (hv.2.2.2.2.2.2.1 _ rfl) (hv.2.2.2.2.2.2.2.1 _ rfl) (hv.2.2.2.2.2.2.2.2.1 _ rfl) (hv.2.2.2.2.2.2.2.2.2.1 _ rfl))
      · refine dw_g rfl ?_
        refine dg_s (pc' := 75) [.long x11] rfl (fun _ => rfl) rfl ?_
        refine dg_s (pc' := 76) [.ref x0, .long x11] rfl (fun _ => rfl) rfl ?_
        refine dg_s (pc' := 79) [.ref (x0 + 22), .long x11] rfl (fun _ => rfl) rfl ?_
        refine dg_s (pc' := 81) [.int x13, .ref (x0 + 22), .long x11] rfl (fun _ => rfl) rfl ?_
        refine dg_s (pc' := 82) [.long (m.2.1 (x0 + 22) (Int32.toNatClampNeg x13)), .long x11] rfl (fun _ => rfl) rfl ?_
        refine dg_s (pc' := 83) [.long (x11 ||| (m.2.1 (x0 + 22) (Int32.toNatClampNeg x13)))] rfl (fun _ => rfl) rfl ?_
        refine dg_L (pc' := 85) [(11, .long (x11 ||| (m.2.1 (x0 + 22) (Int32.toNatClampNeg x13)))), (0, .ref x0), (3, .int x3), (4, .int x4), (5, .long x5), (7, .int x7), (8, .int x8), (9, .int x9), (10, .int x10), (13, .int x13)] [] rfl (fun _ => rfl) rfl ?_
        refine dg_s (pc' := 86) [.ref x0] rfl (fun _ => rfl) rfl ?_
        refine dg_s (pc' := 89) [.ref (x0 + 23)] rfl (fun _ => rfl) rfl ?_
        refine dg_s (pc' := 91) [.int x13, .ref (x0 + 23)] rfl (fun _ => rfl) rfl ?_
        refine dg_s (pc' := 92) [.int (m.1 (x0 + 23) (Int32.toNatClampNeg x13))] rfl (fun _ => rfl) rfl ?_
        refine dg_s (pc' := 94) [.int x10, .int (m.1 (x0 + 23) (Int32.toNatClampNeg x13))] rfl (fun _ => rfl) rfl ?_
        refine dw_if (fun t => Φ (Option.bind t (dc_bk (d_X10_isHopeless_l47s x0 x3 x4 x5 x7 x8 x9 m)))) ((Int32.toInt x10) ≤ (Int32.toInt (m.1 (x0 + 23) (Int32.toNatClampNeg x13)))) [] 107 97 rfl (fun _ => rfl) (fun c2 => ?_) (fun c2 => ?_)
        · refine dw_g rfl ?_
          refine dg_s (pc' := 109) [.int x10] rfl (fun _ => rfl) rfl ?_
          refine dg_L (pc' := 111) [(10, .int x10), (11, .long (x11 ||| (m.2.1 (x0 + 22) (Int32.toNatClampNeg x13)))), (0, .ref x0), (3, .int x3), (4, .int x4), (5, .long x5), (7, .int x7), (8, .int x8), (9, .int x9), (13, .int x13)] [] rfl (fun _ => rfl) rfl ?_
          refine dg_L (pc' := 114) [(13, .int (x13 + (1 : Int32))), (10, .int x10), (11, .long (x11 ||| (m.2.1 (x0 + 22) (Int32.toNatClampNeg x13)))), (0, .ref x0), (3, .int x3), (4, .int x4), (5, .long x5), (7, .int x7), (8, .int x8), (9, .int x9)] [] rfl (fun _ => rfl) rfl ?_
          refine dw_s (pc' := 47) [] rfl (fun _ => rfl) ?_
          exact dw_j rfl (fun lv1 hv => ih x10 (x11 ||| (m.2.1 (x0 + 22) (Int32.toNatClampNeg x13))) (x13 + (1 : Int32)) lv1 (hv.1 _ rfl) (hv.2.1 _ rfl) (hv.2.2.1 _ rfl) (hv.2.2.2.1 _ rfl) (hv.2.2.2.2.1 _ rfl) (hv.2.2.2.2.2.1 _ rfl) (hv.2.2.2.2.2.2.1 _ rfl) (hv.2.2.2.2.2.2.2.1 _ rfl) (hv.2.2.2.2.2.2.2.2.1 _ rfl) (hv.2.2.2.2.2.2.2.2.2.1 _ rfl))
        · refine dw_g rfl ?_
          refine dg_s (pc' := 98) [.ref x0] rfl (fun _ => rfl) rfl ?_
          refine dg_s (pc' := 101) [.ref (x0 + 23)] rfl (fun _ => rfl) rfl ?_
          refine dg_s (pc' := 103) [.int x13, .ref (x0 + 23)] rfl (fun _ => rfl) rfl ?_
          refine dg_s (pc' := 104) [.int (m.1 (x0 + 23) (Int32.toNatClampNeg x13))] rfl (fun _ => rfl) rfl ?_
          refine dg_s (pc' := 109) [.int (m.1 (x0 + 23) (Int32.toNatClampNeg x13))] rfl (fun _ => rfl) rfl ?_
          refine dg_L (pc' := 111) [(10, .int (m.1 (x0 + 23) (Int32.toNatClampNeg x13))), (11, .long (x11 ||| (m.2.1 (x0 + 22) (Int32.toNatClampNeg x13)))), (0, .ref x0), (3, .int x3), (4, .int x4), (5, .long x5), (7, .int x7), (8, .int x8), (9, .int x9), (13, .int x13)] [] rfl (fun _ => rfl) rfl ?_
          refine dg_L (pc' := 114) [(13, .int (x13 + (1 : Int32))), (10, .int (m.1 (x0 + 23) (Int32.toNatClampNeg x13))), (11, .long (x11 ||| (m.2.1 (x0 + 22) (Int32.toNatClampNeg x13)))), (0, .ref x0), (3, .int x3), (4, .int x4), (5, .long x5), (7, .int x7), (8, .int x8), (9, .int x9)] [] rfl (fun _ => rfl) rfl ?_
          refine dw_s (pc' := 47) [] rfl (fun _ => rfl) ?_
          exact dw_j rfl (fun lv1 hv => ih (m.1 (x0 + 23) (Int32.toNatClampNeg x13)) (x11 ||| (m.2.1 (x0 + 22) (Int32.toNatClampNeg x13))) (x13 + (1 : Int32)) lv1 (hv.1 _ rfl) (hv.2.1 _ rfl) (hv.2.2.1 _ rfl) (hv.2.2.2.1 _ rfl) (hv.2.2.2.2.1 _ rfl) (hv.2.2.2.2.2.1 _ rfl) (hv.2.2.2.2.2.2.1 _ rfl) (hv.2.2.2.2.2.2.2.1 _ rfl) (hv.2.2.2.2.2.2.2.2.1 _ rfl) (hv.2.2.2.2.2.2.2.2.2.1 _ rfl))
noncomputable def d_X10_isHopeless_l12b (x0 : Nat) (x3 : Int32) (x4 : Int32) (x5 : Int64) (x7 : Int32) (x8 : Int32) (x9 : Int32) (m : dc_M) : Option ((Int64 × Int32 × Int32 × Int32) ⊕ Int32) :=
  (if 64 ≤ (Int32.toInt x9) then ((d_X10_isHopeless_b144 x3 x4 x7 x8 m).map (fun z => Sum.inr (z))) else (if (Int32.toInt x3) < (Int32.toInt x7) then ((d_X10_isHopeless_b144 x3 x4 x7 x8 m).map (fun z => Sum.inr (z))) else (if ¬ (Int32.toInt (lg_cmp ((x5 >>> (Int32.toInt64 x9 &&& 63)) &&& (1 : Int64)) (1 : Int64))) = 0 then some (Sum.inl (x5, x7, x8, (x9 + (1 : Int32)))) else (d_X10_isHopeless_l47 x0 x3 x4 x5 x7 x8 x9 (7 : Int32) (0 : Int64) (0 : Int32) m))))
noncomputable def d_X10_isHopeless_l12s (x0 : Nat) (x3 : Int32) (x4 : Int32) (m : dc_M) : (Int64 × Int32 × Int32 × Int32) → Option ((Int64 × Int32 × Int32 × Int32) ⊕ Int32) := fun s => d_X10_isHopeless_l12b x0 x3 x4 s.1 s.2.1 s.2.2.1 s.2.2.2 m
noncomputable def d_X10_isHopeless_l12 (x0 : Nat) (x3 : Int32) (x4 : Int32) (x5 : Int64) (x7 : Int32) (x8 : Int32) (x9 : Int32) (m : dc_M) : Option Int32 := dc_lp (d_X10_isHopeless_l12s x0 x3 x4 m) (x5, x7, x8, x9)
set_option maxHeartbeats 8000000 in
theorem k_X10_isHopeless_l12 {u : Nat} {Φ : (Option Int32) → Option Value → dc_M → Prop} (x0 : Nat) (x3 : Int32) (x4 : Int32) (m : dc_M) (kR : ∀ (v : Int32), Φ (some (v)) (some (.int v)) m) : ∀ (N : Nat), ∀ (x5 : Int64) (x7 : Int32) (x8 : Int32) (x9 : Int32) (lv : ab_L), ab_lk lv 0 = some (.ref x0) → ab_lk lv 3 = some (.int x3) → ab_lk lv 4 = some (.int x4) → ab_lk lv 5 = some (.long x5) → ab_lk lv 7 = some (.int x7) → ab_lk lv 8 = some (.int x8) → ab_lk lv 9 = some (.int x9) → dc_pv u N ab_M_X10_isHopeless 12 lv [] m (Φ (d_X10_isHopeless_l12 x0 x3 x4 x5 x7 x8 x9 m)) := by
  intro N
  induction N with
  | zero => intros; exact dc_pv_zero
  | succ N ih =>
    intro x5 x7 x8 x9 lv f0 f3 f4 f5 f7 f8 f9
    refine dc_ok (C := C_X10_isHopeless) (S := S_X10_isHopeless) CO_X10_isHopeless 400 12 [(0, .ref x0), (3, .int x3), (4, .int x4), (5, .long x5), (7, .int x7), (8, .int x8), (9, .int x9)] lv [] m (dc_sub_cons f0 (dc_sub_cons f3 (dc_sub_cons f4 (dc_sub_cons f5 (dc_sub_cons f7 (dc_sub_cons f8 (dc_sub_cons f9 (dc_sub_nil)))))))) ?_
    unfold d_X10_isHopeless_l12
    rw [dc_lp_eq]
    show (fun t x => dc_lf u N ab_M_X10_isHopeless (Φ (Option.bind t (dc_bk (d_X10_isHopeless_l12s x0 x3 x4 m)))) x) (d_X10_isHopeless_l12b x0 x3 x4 x5 x7 x8 x9 m) _
    dsimp only
    unfold d_X10_isHopeless_l12b
    refine dg_s (pc' := 14) [.int x9] rfl (fun _ => rfl) rfl ?_
    refine dg_s (pc' := 16) [.int (64 : Int32), .int x9] rfl (fun _ => rfl) rfl ?_
    refine dw_if (fun t => Φ (Option.bind t (dc_bk (d_X10_isHopeless_l12s x0 x3 x4 m)))) (64 ≤ (Int32.toInt x9)) [] 144 19 rfl (fun _ => rfl) (fun c0 => ?_) (fun c0 => ?_)
    · exact dw_j rfl (fun lv1 hv => k_X10_isHopeless_b144 (Φ := (fun t => Φ (Option.bind (t.map (fun z => Sum.inr (z))) (dc_bk (d_X10_isHopeless_l12s x0 x3 x4 m))))) x3 x4 x7 x8 m (fun _a  => kR _a)  (hv.1 _ rfl) (hv.2.1 _ rfl) (hv.2.2.1 _ rfl) (hv.2.2.2.1 _ rfl))
    · refine dw_g rfl ?_
      refine dg_s (pc' := 21) [.int x7] rfl (fun _ => rfl) rfl ?_
      refine dg_s (pc' := 22) [.int x3, .int x7] rfl (fun _ => rfl) rfl ?_
      refine dw_if (fun t => Φ (Option.bind t (dc_bk (d_X10_isHopeless_l12s x0 x3 x4 m)))) ((Int32.toInt x3) < (Int32.toInt x7)) [] 144 25 rfl (fun _ => rfl) (fun c1 => ?_) (fun c1 => ?_)
      · exact dw_j rfl (fun lv1 hv => k_X10_isHopeless_b144 (Φ := (fun t => Φ (Option.bind (t.map (fun z => Sum.inr (z))) (dc_bk (d_X10_isHopeless_l12s x0 x3 x4 m))))) x3 x4 x7 x8 m (fun _a  => kR _a)  (hv.1 _ rfl) (hv.2.1 _ rfl) (hv.2.2.1 _ rfl) (hv.2.2.2.1 _ rfl))
      · refine dw_g rfl ?_
        refine dg_s (pc' := 27) [.long x5] rfl (fun _ => rfl) rfl ?_
        refine dg_s (pc' := 29) [.int x9, .long x5] rfl (fun _ => rfl) rfl ?_
        refine dg_s (pc' := 30) [.long (x5 >>> (Int32.toInt64 x9 &&& 63))] rfl (fun _ => rfl) rfl ?_
        refine dg_s (pc' := 31) [.long (1 : Int64), .long (x5 >>> (Int32.toInt64 x9 &&& 63))] rfl (fun _ => rfl) rfl ?_
        refine dg_s (pc' := 32) [.long ((x5 >>> (Int32.toInt64 x9 &&& 63)) &&& (1 : Int64))] rfl (fun _ => rfl) rfl ?_
        refine dg_s (pc' := 33) [.long (1 : Int64), .long ((x5 >>> (Int32.toInt64 x9 &&& 63)) &&& (1 : Int64))] rfl (fun _ => rfl) rfl ?_
        refine dg_s (pc' := 34) [.int (lg_cmp ((x5 >>> (Int32.toInt64 x9 &&& 63)) &&& (1 : Int64)) (1 : Int64))] rfl (fun _ => rfl) rfl ?_
        refine dw_if (fun t => Φ (Option.bind t (dc_bk (d_X10_isHopeless_l12s x0 x3 x4 m)))) (¬ (Int32.toInt (lg_cmp ((x5 >>> (Int32.toInt64 x9 &&& 63)) &&& (1 : Int64)) (1 : Int64))) = 0) [] 138 37 rfl (fun _ => rfl) (fun c2 => ?_) (fun c2 => ?_)
        · refine dw_g rfl ?_
          refine dg_L (pc' := 141) [(9, .int (x9 + (1 : Int32))), (0, .ref x0), (3, .int x3), (4, .int x4), (5, .long x5), (7, .int x7), (8, .int x8)] [] rfl (fun _ => rfl) rfl ?_
          refine dw_s (pc' := 12) [] rfl (fun _ => rfl) ?_
          exact dw_j rfl (fun lv1 hv => ih x5 x7 x8 (x9 + (1 : Int32)) lv1 (hv.1 _ rfl) (hv.2.1 _ rfl) (hv.2.2.1 _ rfl) (hv.2.2.2.1 _ rfl) (hv.2.2.2.2.1 _ rfl) (hv.2.2.2.2.2.1 _ rfl) (hv.2.2.2.2.2.2.1 _ rfl))
        · refine dw_g rfl ?_
          refine dg_s (pc' := 39) [.int (7 : Int32)] rfl (fun _ => rfl) rfl ?_
          refine dg_L (pc' := 41) [(10, .int (7 : Int32)), (0, .ref x0), (3, .int x3), (4, .int x4), (5, .long x5), (7, .int x7), (8, .int x8), (9, .int x9)] [] rfl (fun _ => rfl) rfl ?_
          refine dg_s (pc' := 42) [.long (0 : Int64)] rfl (fun _ => rfl) rfl ?_
          refine dg_L (pc' := 44) [(11, .long (0 : Int64)), (10, .int (7 : Int32)), (0, .ref x0), (3, .int x3), (4, .int x4), (5, .long x5), (7, .int x7), (8, .int x8), (9, .int x9)] [] rfl (fun _ => rfl) rfl ?_
          refine dg_s (pc' := 45) [.int (0 : Int32)] rfl (fun _ => rfl) rfl ?_
          refine dw_L (pc' := 47) [(13, .int (0 : Int32)), (11, .long (0 : Int64)), (10, .int (7 : Int32)), (0, .ref x0), (3, .int x3), (4, .int x4), (5, .long x5), (7, .int x7), (8, .int x8), (9, .int x9)] [] rfl (fun _ => rfl) ?_
          exact dw_j rfl (fun lv1 hv => k_X10_isHopeless_l47 (Φ := (fun t => Φ (Option.bind t (dc_bk (d_X10_isHopeless_l12s x0 x3 x4 m))))) x0 x3 x4 x5 x7 x8 x9 m (fun _a  => kR _a) N ih (7 : Int32) (0 : Int64) (0 : Int32) lv1 (hv.1 _ rfl) (hv.2.1 _ rfl) (hv.2.2.1 _ rfl) (hv.2.2.2.1 _ rfl) (hv.2.2.2.2.1 _ rfl) (hv.2.2.2.2.2.1 _ rfl) (hv.2.2.2.2.2.2.1 _ rfl) (hv.2.2.2.2.2.2.2.1 _ rfl) (hv.2.2.2.2.2.2.2.2.1 _ rfl) (hv.2.2.2.2.2.2.2.2.2.1 _ rfl))
noncomputable def d_X10_isHopeless (x0 : Nat) (x1 : Int64) (x3 : Int32) (x4 : Int32) (m : dc_M) : Option Int32 :=
  (d_X10_isHopeless_l12 x0 x3 x4 x1 (0 : Int32) (0 : Int32) (0 : Int32) m)
set_option maxHeartbeats 8000000 in
theorem k_X10_isHopeless {u : Nat} {N : Nat} {Φ : (Option Int32) → Option Value → dc_M → Prop} (x0 : Nat) (x1 : Int64) (x3 : Int32) (x4 : Int32) (m : dc_M) (kR : ∀ (v : Int32), Φ (some (v)) (some (.int v)) m)  {lv : ab_L} (f0 : ab_lk lv 0 = some (.ref x0)) (f1 : ab_lk lv 1 = some (.long x1)) (f3 : ab_lk lv 3 = some (.int x3)) (f4 : ab_lk lv 4 = some (.int x4)) : dc_pv u N ab_M_X10_isHopeless 0 lv [] m (Φ (d_X10_isHopeless x0 x1 x3 x4 m)) := by
  refine dc_pv.mono (dc_ok (C := C_X10_isHopeless) (S := S_X10_isHopeless) CO_X10_isHopeless 400 0 [(0, .ref x0), (1, .long x1), (3, .int x3), (4, .int x4)] lv [] m (dc_sub_cons f0 (dc_sub_cons f1 (dc_sub_cons f3 (dc_sub_cons f4 (dc_sub_nil))))) ?_) (Nat.le_succ N)
  unfold d_X10_isHopeless
  refine dg_s (pc' := 1) [.long x1] rfl (fun _ => rfl) rfl ?_
  refine dg_L (pc' := 3) [(5, .long x1), (0, .ref x0), (1, .long x1), (3, .int x3), (4, .int x4)] [] rfl (fun _ => rfl) rfl ?_
  refine dg_s (pc' := 4) [.int (0 : Int32)] rfl (fun _ => rfl) rfl ?_
  refine dg_L (pc' := 6) [(7, .int (0 : Int32)), (5, .long x1), (0, .ref x0), (1, .long x1), (3, .int x3), (4, .int x4)] [] rfl (fun _ => rfl) rfl ?_
  refine dg_s (pc' := 7) [.int (0 : Int32)] rfl (fun _ => rfl) rfl ?_
  refine dg_L (pc' := 9) [(8, .int (0 : Int32)), (7, .int (0 : Int32)), (5, .long x1), (0, .ref x0), (1, .long x1), (3, .int x3), (4, .int x4)] [] rfl (fun _ => rfl) rfl ?_
  refine dg_s (pc' := 10) [.int (0 : Int32)] rfl (fun _ => rfl) rfl ?_
  refine dw_L (pc' := 12) [(9, .int (0 : Int32)), (8, .int (0 : Int32)), (7, .int (0 : Int32)), (5, .long x1), (0, .ref x0), (1, .long x1), (3, .int x3), (4, .int x4)] [] rfl (fun _ => rfl) ?_
  exact dw_j rfl (fun lv1 hv => k_X10_isHopeless_l12 (Φ := (fun t => Φ t)) x0 x3 x4 m (fun _a  => kR _a) N  x1 (0 : Int32) (0 : Int32) (0 : Int32) lv1 (hv.1 _ rfl) (hv.2.1 _ rfl) (hv.2.2.1 _ rfl) (hv.2.2.2.1 _ rfl) (hv.2.2.2.2.1 _ rfl) (hv.2.2.2.2.2.1 _ rfl) (hv.2.2.2.2.2.2.1 _ rfl))
noncomputable def H_X10_isHopeless : dc_H := fun As m k => match As with
  | [.ref x0, .long x1, .int x3, .int x4] => (d_X10_isHopeless x0 x1 x3 x4 m).bind (fun q => k (some (.int q)) m)
  | _ => dc_kz
theorem H_X10_isHopeless_ok {u : Nat} : dc_cok u 194 H_X10_isHopeless := fun M' hG N As m k P hz hP => by
  obtain rfl : ab_M_X10_isHopeless = M' := Option.some.inj hG
  unfold H_X10_isHopeless at hP
  split at hP
  · rename_i x0 x1 x3 x4
    exact dc_pv.imp (k_X10_isHopeless (Φ := fun (t : Option Int32) r m' => P (t.bind (fun q => k (some (.int q)) m)) → P (k r m')) x0 x1 x3 x4 m (fun _  h => h) rfl rfl rfl rfl) (fun r m' h => h hP)
  · exact absurd hP hz
