/-! ===== methods as functions (written by a program) ===== -/
noncomputable def C_X4_numberOf : List (Nat × dc_H) := [(34, H_X3_addEvent), (32, H_X3_eventLike)]
theorem CO_X4_numberOf : dc_CO 3 C_X4_numberOf := dc_CO_cons H_X3_addEvent_ok (dc_CO_cons H_X3_eventLike_ok (dc_CO_nil))
def S_X4_numberOf : List (Nat × List Nat) := []
noncomputable def d_X4_numberOf (x0 : Nat) (x1 : Int32) (x2 : Int32) (x3 : Int32) (m : dc_M) : Option (Int32 × dc_M) :=
  ((d_X3_eventLike (m.2.2.1 x0 8) x1 x2 x3 m).bind (fun q1 => (if (Int32.toInt q1) < 0 then (dc_let (d_X3_addEvent (m.2.2.1 x0 8) x1 x2 x3 m) (fun q2 => some ((q2.1, q2.2)))) else some ((q1, m)))))
set_option maxHeartbeats 8000000 in
theorem k_X4_numberOf {N : Nat} {Φ : (Option (Int32 × dc_M)) → Option Value → dc_M → Prop} (x0 : Nat) (x1 : Int32) (x2 : Int32) (x3 : Int32) (m : dc_M) (kR : ∀ (v : Int32) (m : dc_M), Φ (some ((v, m))) (some (.int v)) m)  {lv : ab_L} (f0 : ab_lk lv 0 = some (.ref x0)) (f1 : ab_lk lv 1 = some (.int x1)) (f2 : ab_lk lv 2 = some (.int x2)) (f3 : ab_lk lv 3 = some (.int x3)) : dc_pv 3 N ab_M_X4_numberOf 0 lv [] m (Φ (d_X4_numberOf x0 x1 x2 x3 m)) := by
  refine dc_pv.mono (dc_ok (C := C_X4_numberOf) (S := S_X4_numberOf) CO_X4_numberOf 400 0 [(0, .ref x0), (1, .int x1), (2, .int x2), (3, .int x3)] lv [] m (dc_sub_cons f0 (dc_sub_cons f1 (dc_sub_cons f2 (dc_sub_cons f3 (dc_sub_nil))))) ?_) (Nat.le_succ N)
  unfold d_X4_numberOf
  refine dg_s (pc' := 1) [.ref x0] rfl (fun _ => rfl) rfl ?_
  refine dg_s (pc' := 4) [.ref (m.2.2.1 x0 8)] rfl (fun _ => rfl) rfl ?_
  refine dg_s (pc' := 5) [.int x1, .ref (m.2.2.1 x0 8)] rfl (fun _ => rfl) rfl ?_
  refine dg_s (pc' := 6) [.int x2, .int x1, .ref (m.2.2.1 x0 8)] rfl (fun _ => rfl) rfl ?_
  refine dg_s (pc' := 7) [.int x3, .int x2, .int x1, .ref (m.2.2.1 x0 8)] rfl (fun _ => rfl) rfl ?_
  refine dw_b (fun t => Φ t) (pc' := 10) (fun q1 => [.int q1]) (fun q1 => m) rfl (fun _ => rfl) (fun q1 => ?_)
  refine dw_g rfl ?_
  refine dg_L (pc' := 12) [(4, .int q1), (0, .ref x0), (1, .int x1), (2, .int x2), (3, .int x3)] [] rfl (fun _ => rfl) rfl ?_
  refine dg_s (pc' := 14) [.int q1] rfl (fun _ => rfl) rfl ?_
  refine dw_if (fun t => Φ t) ((Int32.toInt q1) < 0) [] 22 17 rfl (fun _ => rfl) (fun c0 => ?_) (fun c0 => ?_)
  · refine dw_g rfl ?_
    refine dg_s (pc' := 23) [.ref x0] rfl (fun _ => rfl) rfl ?_
    refine dg_s (pc' := 26) [.ref (m.2.2.1 x0 8)] rfl (fun _ => rfl) rfl ?_
    refine dg_s (pc' := 27) [.int x1, .ref (m.2.2.1 x0 8)] rfl (fun _ => rfl) rfl ?_
    refine dg_s (pc' := 28) [.int x2, .int x1, .ref (m.2.2.1 x0 8)] rfl (fun _ => rfl) rfl ?_
    refine dg_s (pc' := 29) [.int x3, .int x2, .int x1, .ref (m.2.2.1 x0 8)] rfl (fun _ => rfl) rfl ?_
    refine dw_l (fun t => Φ t) (pc' := 32) (fun q2 => [.int q2.1]) (fun q2 => q2.2) rfl (fun _ => rfl) (fun q2 => ?_)
    refine dw_g rfl ?_
    exact dw_r (some (.inl (some (.int q2.1), q2.2))) rfl (fun _ => rfl) (kR _ _)
  · refine dw_g rfl ?_
    refine dg_s (pc' := 19) [.int q1] rfl (fun _ => rfl) rfl ?_
    refine dg_s (pc' := 32) [.int q1] rfl (fun _ => rfl) rfl ?_
    exact dw_r (some (.inl (some (.int q1), m))) rfl (fun _ => rfl) (kR _ _)
noncomputable def H_X4_numberOf : dc_H := fun As m k => match As with
  | [.ref x0, .int x1, .int x2, .int x3] => (d_X4_numberOf x0 x1 x2 x3 m).bind (fun q => k (some (.int q.1)) q.2)
  | _ => dc_kz
theorem H_X4_numberOf_ok : dc_cok 3 53 H_X4_numberOf := fun M' hG N As m k P hz hP => by
  obtain rfl : ab_M_X4_numberOf = M' := Option.some.inj hG
  unfold H_X4_numberOf at hP
  split at hP
  · rename_i x0 x1 x2 x3
    exact dc_pv.imp (k_X4_numberOf (Φ := fun (t : Option (Int32 × dc_M)) r m' => P (t.bind (fun q => k (some (.int q.1)) q.2)) → P (k r m')) x0 x1 x2 x3 m (fun _ _ h => h) rfl rfl rfl rfl) (fun r m' h => h hP)
  · exact absurd hP hz
def C_X4_refuse : List (Nat × dc_H) := []
theorem CO_X4_refuse {u : Nat} : dc_CO u C_X4_refuse := dc_CO_nil
def S_X4_refuse : List (Nat × List Nat) := []
def d_X4_refuse (x0 : Nat) (x1 : Int32) (x2 : Int32) (m : dc_M) : dc_M :=
  (if ¬ (Int32.toInt ((dc_wi m x0 5 (4 : Int32)).1 x0 2)) = 0 then (dc_wi m x0 5 (4 : Int32)) else (dc_wi (dc_wi (dc_wi m x0 5 (4 : Int32)) x0 2 x1) x0 3 x2))
set_option maxHeartbeats 8000000 in
theorem k_X4_refuse {u : Nat} {N : Nat} {Φ : dc_M → Option Value → dc_M → Prop} (x0 : Nat) (x1 : Int32) (x2 : Int32) (m : dc_M) (kR : ∀  (m : dc_M), Φ (m) (none) m)  {lv : ab_L} (f0 : ab_lk lv 0 = some (.ref x0)) (f1 : ab_lk lv 1 = some (.int x1)) (f2 : ab_lk lv 2 = some (.int x2)) : dc_pv u N ab_M_X4_refuse 0 lv [] m (Φ (d_X4_refuse x0 x1 x2 m)) := by
  refine dc_pv.mono (dc_ok (C := C_X4_refuse) (S := S_X4_refuse) CO_X4_refuse 400 0 [(0, .ref x0), (1, .int x1), (2, .int x2)] lv [] m (dc_sub_cons f0 (dc_sub_cons f1 (dc_sub_cons f2 (dc_sub_nil)))) ?_) (Nat.le_succ N)
  unfold d_X4_refuse
  refine dg_s (pc' := 1) [.ref x0] rfl (fun _ => rfl) rfl ?_
  refine dg_s (pc' := 2) [.int (4 : Int32), .ref x0] rfl (fun _ => rfl) rfl ?_
  refine dg_m (pc' := 5) (dc_wi m x0 5 (4 : Int32)) [] rfl (fun _ => rfl) rfl ?_
  refine dg_s (pc' := 6) [.ref x0] rfl (fun _ => rfl) rfl ?_
  refine dg_s (pc' := 9) [.int ((dc_wi m x0 5 (4 : Int32)).1 x0 2)] rfl (fun _ => rfl) rfl ?_
  refine dw_if (fun t => Φ t) (¬ (Int32.toInt ((dc_wi m x0 5 (4 : Int32)).1 x0 2)) = 0) [] 22 12 rfl (fun _ => rfl) (fun c0 => ?_) (fun c0 => ?_)
  · refine dw_g rfl ?_
    exact dw_r (some (.inl (none, (dc_wi m x0 5 (4 : Int32))))) rfl (fun _ => rfl) (kR _)
  · refine dw_g rfl ?_
    refine dg_s (pc' := 13) [.ref x0] rfl (fun _ => rfl) rfl ?_
    refine dg_s (pc' := 14) [.int x1, .ref x0] rfl (fun _ => rfl) rfl ?_
    refine dg_m (pc' := 17) (dc_wi (dc_wi m x0 5 (4 : Int32)) x0 2 x1) [] rfl (fun _ => rfl) rfl ?_
    refine dg_s (pc' := 18) [.ref x0] rfl (fun _ => rfl) rfl ?_
    refine dg_s (pc' := 19) [.int x2, .ref x0] rfl (fun _ => rfl) rfl ?_
    refine dg_m (pc' := 22) (dc_wi (dc_wi (dc_wi m x0 5 (4 : Int32)) x0 2 x1) x0 3 x2) [] rfl (fun _ => rfl) rfl ?_
    exact dw_r (some (.inl (none, (dc_wi (dc_wi (dc_wi m x0 5 (4 : Int32)) x0 2 x1) x0 3 x2)))) rfl (fun _ => rfl) (kR _)
def H_X4_refuse : dc_H := fun As m k => match As with
  | [.ref x0, .int x1, .int x2] => dc_let (d_X4_refuse x0 x1 x2 m) (fun q => k (none) q)
  | _ => dc_kz
theorem H_X4_refuse_ok {u : Nat} : dc_cok u 56 H_X4_refuse := fun M' hG N As m k P hz hP => by
  obtain rfl : ab_M_X4_refuse = M' := Option.some.inj hG
  unfold H_X4_refuse at hP
  split at hP
  · rename_i x0 x1 x2
    exact dc_pv.imp (k_X4_refuse (Φ := fun (t : dc_M) r m' => P (dc_let t (fun q => k (none) q)) → P (k r m')) x0 x1 x2 m (fun _ h => h) rfl rfl rfl) (fun r m' h => h hP)
  · exact absurd hP hz
def C_X4_isFigure : List (Nat × dc_H) := []
theorem CO_X4_isFigure {u : Nat} : dc_CO u C_X4_isFigure := dc_CO_nil
def S_X4_isFigure : List (Nat × List Nat) := []
def d_X4_isFigure (x0 : Int32) (m : dc_M) : Int32 :=
  (if (Int32.toInt x0) < 48 then (0 : Int32) else (if 57 < (Int32.toInt x0) then (0 : Int32) else (1 : Int32)))
set_option maxHeartbeats 8000000 in
theorem k_X4_isFigure {u : Nat} {N : Nat} {Φ : Int32 → Option Value → dc_M → Prop} (x0 : Int32) (m : dc_M) (kR : ∀ (v : Int32), Φ (v) (some (.int v)) m)  {lv : ab_L} (f0 : ab_lk lv 0 = some (.int x0)) : dc_pv u N ab_M_X4_isFigure 0 lv [] m (Φ (d_X4_isFigure x0 m)) := by
  refine dc_pv.mono (dc_ok (C := C_X4_isFigure) (S := S_X4_isFigure) CO_X4_isFigure 400 0 [(0, .int x0)] lv [] m (dc_sub_cons f0 (dc_sub_nil)) ?_) (Nat.le_succ N)
  unfold d_X4_isFigure
  refine dg_s (pc' := 1) [.int x0] rfl (fun _ => rfl) rfl ?_
  refine dg_s (pc' := 3) [.int (48 : Int32), .int x0] rfl (fun _ => rfl) rfl ?_
  refine dw_if (fun t => Φ t) ((Int32.toInt x0) < 48) [] 16 6 rfl (fun _ => rfl) (fun c0 => ?_) (fun c0 => ?_)
  · refine dw_g rfl ?_
    refine dg_s (pc' := 17) [.int (0 : Int32)] rfl (fun _ => rfl) rfl ?_
    exact dw_r (some (.inl (some (.int (0 : Int32)), m))) rfl (fun _ => rfl) (kR _)
  · refine dw_g rfl ?_
    refine dg_s (pc' := 7) [.int x0] rfl (fun _ => rfl) rfl ?_
    refine dg_s (pc' := 9) [.int (57 : Int32), .int x0] rfl (fun _ => rfl) rfl ?_
    refine dw_if (fun t => Φ t) (57 < (Int32.toInt x0)) [] 16 12 rfl (fun _ => rfl) (fun c1 => ?_) (fun c1 => ?_)
    · refine dw_g rfl ?_
      refine dg_s (pc' := 17) [.int (0 : Int32)] rfl (fun _ => rfl) rfl ?_
      exact dw_r (some (.inl (some (.int (0 : Int32)), m))) rfl (fun _ => rfl) (kR _)
    · refine dw_g rfl ?_
      refine dg_s (pc' := 13) [.int (1 : Int32)] rfl (fun _ => rfl) rfl ?_
      refine dg_s (pc' := 17) [.int (1 : Int32)] rfl (fun _ => rfl) rfl ?_
      exact dw_r (some (.inl (some (.int (1 : Int32)), m))) rfl (fun _ => rfl) (kR _)
def H_X4_isFigure : dc_H := fun As m k => match As with
  | [.int x0] => k (some (.int (d_X4_isFigure x0 m))) m
  | _ => dc_kz
theorem H_X4_isFigure_ok {u : Nat} : dc_cok u 61 H_X4_isFigure := fun M' hG N As m k P hz hP => by
  obtain rfl : ab_M_X4_isFigure = M' := Option.some.inj hG
  unfold H_X4_isFigure at hP
  split at hP
  · rename_i x0
    exact dc_pv.imp (k_X4_isFigure (Φ := fun (t : Int32) r m' => P (k (some (.int t)) m) → P (k r m')) x0 m (fun _  h => h) rfl) (fun r m' h => h hP)
  · exact absurd hP hz
def C_X4_isSmallLetter : List (Nat × dc_H) := []
theorem CO_X4_isSmallLetter {u : Nat} : dc_CO u C_X4_isSmallLetter := dc_CO_nil
def S_X4_isSmallLetter : List (Nat × List Nat) := []
def d_X4_isSmallLetter (x0 : Int32) (m : dc_M) : Int32 :=
  (if (Int32.toInt x0) < 97 then (0 : Int32) else (if 122 < (Int32.toInt x0) then (0 : Int32) else (1 : Int32)))
set_option maxHeartbeats 8000000 in
theorem k_X4_isSmallLetter {u : Nat} {N : Nat} {Φ : Int32 → Option Value → dc_M → Prop} (x0 : Int32) (m : dc_M) (kR : ∀ (v : Int32), Φ (v) (some (.int v)) m)  {lv : ab_L} (f0 : ab_lk lv 0 = some (.int x0)) : dc_pv u N ab_M_X4_isSmallLetter 0 lv [] m (Φ (d_X4_isSmallLetter x0 m)) := by
  refine dc_pv.mono (dc_ok (C := C_X4_isSmallLetter) (S := S_X4_isSmallLetter) CO_X4_isSmallLetter 400 0 [(0, .int x0)] lv [] m (dc_sub_cons f0 (dc_sub_nil)) ?_) (Nat.le_succ N)
  unfold d_X4_isSmallLetter
  refine dg_s (pc' := 1) [.int x0] rfl (fun _ => rfl) rfl ?_
  refine dg_s (pc' := 3) [.int (97 : Int32), .int x0] rfl (fun _ => rfl) rfl ?_
  refine dw_if (fun t => Φ t) ((Int32.toInt x0) < 97) [] 16 6 rfl (fun _ => rfl) (fun c0 => ?_) (fun c0 => ?_)
  · refine dw_g rfl ?_
    refine dg_s (pc' := 17) [.int (0 : Int32)] rfl (fun _ => rfl) rfl ?_
    exact dw_r (some (.inl (some (.int (0 : Int32)), m))) rfl (fun _ => rfl) (kR _)
  · refine dw_g rfl ?_
    refine dg_s (pc' := 7) [.int x0] rfl (fun _ => rfl) rfl ?_
    refine dg_s (pc' := 9) [.int (122 : Int32), .int x0] rfl (fun _ => rfl) rfl ?_
    refine dw_if (fun t => Φ t) (122 < (Int32.toInt x0)) [] 16 12 rfl (fun _ => rfl) (fun c1 => ?_) (fun c1 => ?_)
    · refine dw_g rfl ?_
      refine dg_s (pc' := 17) [.int (0 : Int32)] rfl (fun _ => rfl) rfl ?_
      exact dw_r (some (.inl (some (.int (0 : Int32)), m))) rfl (fun _ => rfl) (kR _)
    · refine dw_g rfl ?_
      refine dg_s (pc' := 13) [.int (1 : Int32)] rfl (fun _ => rfl) rfl ?_
      refine dg_s (pc' := 17) [.int (1 : Int32)] rfl (fun _ => rfl) rfl ?_
      exact dw_r (some (.inl (some (.int (1 : Int32)), m))) rfl (fun _ => rfl) (kR _)
def H_X4_isSmallLetter : dc_H := fun As m k => match As with
  | [.int x0] => k (some (.int (d_X4_isSmallLetter x0 m))) m
  | _ => dc_kz
theorem H_X4_isSmallLetter_ok {u : Nat} : dc_cok u 60 H_X4_isSmallLetter := fun M' hG N As m k P hz hP => by
  obtain rfl : ab_M_X4_isSmallLetter = M' := Option.some.inj hG
  unfold H_X4_isSmallLetter at hP
  split at hP
  · rename_i x0
    exact dc_pv.imp (k_X4_isSmallLetter (Φ := fun (t : Int32) r m' => P (k (some (.int t)) m) → P (k r m')) x0 m (fun _  h => h) rfl) (fun r m' h => h hP)
  · exact absurd hP hz
def C_X4_take : List (Nat × dc_H) := [(61, H_X4_isFigure), (60, H_X4_isSmallLetter), (56, H_X4_refuse)]
theorem CO_X4_take {u : Nat} : dc_CO u C_X4_take := dc_CO_cons H_X4_isFigure_ok (dc_CO_cons H_X4_isSmallLetter_ok (dc_CO_cons H_X4_refuse_ok (dc_CO_nil)))
def S_X4_take : List (Nat × List Nat) := [(8, [0]), (46, [0]), (109, [0])]
noncomputable def d_X4_take_l109b (x0 : Nat)  (m : dc_M) : Option (dc_M ⊕ dc_M) :=
  (if (Int32.toInt (m.1 x0 1)) ≤ (Int32.toInt (m.1 x0 4)) then some (Sum.inr (m)) else (if (Int32.toInt (d_X4_isSmallLetter (m.1 (x0 + 1) (Int32.toNatClampNeg (m.1 x0 4))) m)) = 0 then some (Sum.inr (m)) else some (Sum.inl (dc_wi m x0 4 ((m.1 x0 4) + (1 : Int32))))))
noncomputable def d_X4_take_l109s (x0 : Nat) : dc_M → Option (dc_M ⊕ dc_M) := fun s => d_X4_take_l109b x0 s
noncomputable def d_X4_take_l109 (x0 : Nat)  (m : dc_M) : Option dc_M := dc_lp (d_X4_take_l109s x0) m
set_option maxHeartbeats 8000000 in
theorem k_X4_take_l109 {u : Nat} {Φ : (Option dc_M) → Option Value → dc_M → Prop} (x0 : Nat) (kR : ∀  (m : dc_M), Φ (some (m)) (none) m) : ∀ (N : Nat), ∀  (m : dc_M) (lv : ab_L), ab_lk lv 0 = some (.ref x0) → dc_pv u N ab_M_X4_take 109 lv [] m (Φ (d_X4_take_l109 x0  m)) := by
  intro N
  induction N with
  | zero => intros; exact dc_pv_zero
  | succ N ih =>
    intro m lv f0
    refine dc_ok (C := C_X4_take) (S := S_X4_take) CO_X4_take 400 109 [(0, .ref x0)] lv [] m (dc_sub_cons f0 (dc_sub_nil)) ?_
    unfold d_X4_take_l109
    rw [dc_lp_eq]
    show (fun t x => dc_lf u N ab_M_X4_take (Φ (Option.bind t (dc_bk (d_X4_take_l109s x0)))) x) (d_X4_take_l109b x0  m) _
    dsimp only
    unfold d_X4_take_l109b
    refine dg_s (pc' := 110) [.ref x0] rfl (fun _ => rfl) rfl ?_
    refine dg_s (pc' := 113) [.int (m.1 x0 4)] rfl (fun _ => rfl) rfl ?_
    refine dg_s (pc' := 114) [.ref x0, .int (m.1 x0 4)] rfl (fun _ => rfl) rfl ?_
    refine dg_s (pc' := 117) [.int (m.1 x0 1), .int (m.1 x0 4)] rfl (fun _ => rfl) rfl ?_
    refine dw_if (fun t => Φ (Option.bind t (dc_bk (d_X4_take_l109s x0)))) ((Int32.toInt (m.1 x0 1)) ≤ (Int32.toInt (m.1 x0 4))) [] 263 120 rfl (fun _ => rfl) (fun c0 => ?_) (fun c0 => ?_)
    · refine dw_g rfl ?_
      exact dw_r (some (.inl (none, m))) rfl (fun _ => rfl) (kR _)
    · refine dw_g rfl ?_
      refine dg_s (pc' := 121) [.ref x0] rfl (fun _ => rfl) rfl ?_
      refine dg_s (pc' := 124) [.ref (x0 + 1)] rfl (fun _ => rfl) rfl ?_
      refine dg_s (pc' := 125) [.ref x0, .ref (x0 + 1)] rfl (fun _ => rfl) rfl ?_
      refine dg_s (pc' := 128) [.int (m.1 x0 4), .ref (x0 + 1)] rfl (fun _ => rfl) rfl ?_
      refine dg_s (pc' := 129) [.int (m.1 (x0 + 1) (Int32.toNatClampNeg (m.1 x0 4)))] rfl (fun _ => rfl) rfl ?_
      refine dg_s (pc' := 132) [.int (d_X4_isSmallLetter (m.1 (x0 + 1) (Int32.toNatClampNeg (m.1 x0 4))) m)] rfl (fun _ => rfl) rfl ?_
      refine dw_if (fun t => Φ (Option.bind t (dc_bk (d_X4_take_l109s x0)))) ((Int32.toInt (d_X4_isSmallLetter (m.1 (x0 + 1) (Int32.toNatClampNeg (m.1 x0 4))) m)) = 0) [] 263 135 rfl (fun _ => rfl) (fun c1 => ?_) (fun c1 => ?_)
      · refine dw_g rfl ?_
        exact dw_r (some (.inl (none, m))) rfl (fun _ => rfl) (kR _)
      · refine dw_g rfl ?_
        refine dg_s (pc' := 136) [.ref x0] rfl (fun _ => rfl) rfl ?_
        refine dg_s (pc' := 137) [.ref x0, .ref x0] rfl (fun _ => rfl) rfl ?_
        refine dg_s (pc' := 140) [.int (m.1 x0 4), .ref x0] rfl (fun _ => rfl) rfl ?_
        refine dg_s (pc' := 141) [.int (1 : Int32), .int (m.1 x0 4), .ref x0] rfl (fun _ => rfl) rfl ?_
        refine dg_s (pc' := 142) [.int ((m.1 x0 4) + (1 : Int32)), .ref x0] rfl (fun _ => rfl) rfl ?_
        refine dg_m (pc' := 145) (dc_wi m x0 4 ((m.1 x0 4) + (1 : Int32))) [] rfl (fun _ => rfl) rfl ?_
        refine dw_s (pc' := 109) [] rfl (fun _ => rfl) ?_
        exact dw_j rfl (fun lv1 hv => ih (dc_wi m x0 4 ((m.1 x0 4) + (1 : Int32))) lv1 (hv.1 _ rfl))
noncomputable def d_X4_take_b46 (x0 : Nat) (m : dc_M) : Option dc_M :=
  (if (Int32.toInt ((dc_wi m x0 6 (m.1 x0 4)).1 x0 4)) < (Int32.toInt ((dc_wi m x0 6 (m.1 x0 4)).1 x0 1)) then (if (Int32.toInt (d_X4_isSmallLetter ((dc_wi (dc_wi (dc_wi m x0 6 (m.1 x0 4)) x0 7 ((dc_wi m x0 6 (m.1 x0 4)).1 (x0 + 1) (Int32.toNatClampNeg ((dc_wi m x0 6 (m.1 x0 4)).1 x0 4)))) x0 4 (((dc_wi (dc_wi m x0 6 (m.1 x0 4)) x0 7 ((dc_wi m x0 6 (m.1 x0 4)).1 (x0 + 1) (Int32.toNatClampNeg ((dc_wi m x0 6 (m.1 x0 4)).1 x0 4)))).1 x0 4) + (1 : Int32))).1 x0 7) (dc_wi (dc_wi (dc_wi m x0 6 (m.1 x0 4)) x0 7 ((dc_wi m x0 6 (m.1 x0 4)).1 (x0 + 1) (Int32.toNatClampNeg ((dc_wi m x0 6 (m.1 x0 4)).1 x0 4)))) x0 4 (((dc_wi (dc_wi m x0 6 (m.1 x0 4)) x0 7 ((dc_wi m x0 6 (m.1 x0 4)).1 (x0 + 1) (Int32.toNatClampNeg ((dc_wi m x0 6 (m.1 x0 4)).1 x0 4)))).1 x0 4) + (1 : Int32))))) = 0 then (if (Int32.toInt (d_X4_isFigure ((dc_wi (dc_wi (dc_wi m x0 6 (m.1 x0 4)) x0 7 ((dc_wi m x0 6 (m.1 x0 4)).1 (x0 + 1) (Int32.toNatClampNeg ((dc_wi m x0 6 (m.1 x0 4)).1 x0 4)))) x0 4 (((dc_wi (dc_wi m x0 6 (m.1 x0 4)) x0 7 ((dc_wi m x0 6 (m.1 x0 4)).1 (x0 + 1) (Int32.toNatClampNeg ((dc_wi m x0 6 (m.1 x0 4)).1 x0 4)))).1 x0 4) + (1 : Int32))).1 x0 7) (dc_wi (dc_wi (dc_wi m x0 6 (m.1 x0 4)) x0 7 ((dc_wi m x0 6 (m.1 x0 4)).1 (x0 + 1) (Int32.toNatClampNeg ((dc_wi m x0 6 (m.1 x0 4)).1 x0 4)))) x0 4 (((dc_wi (dc_wi m x0 6 (m.1 x0 4)) x0 7 ((dc_wi m x0 6 (m.1 x0 4)).1 (x0 + 1) (Int32.toNatClampNeg ((dc_wi m x0 6 (m.1 x0 4)).1 x0 4)))).1 x0 4) + (1 : Int32))))) = 0 then (if (Int32.toInt ((dc_wi (dc_wi (dc_wi m x0 6 (m.1 x0 4)) x0 7 ((dc_wi m x0 6 (m.1 x0 4)).1 (x0 + 1) (Int32.toNatClampNeg ((dc_wi m x0 6 (m.1 x0 4)).1 x0 4)))) x0 4 (((dc_wi (dc_wi m x0 6 (m.1 x0 4)) x0 7 ((dc_wi m x0 6 (m.1 x0 4)).1 (x0 + 1) (Int32.toNatClampNeg ((dc_wi m x0 6 (m.1 x0 4)).1 x0 4)))).1 x0 4) + (1 : Int32))).1 x0 7)) = 43 then some ((dc_wi (dc_wi (dc_wi (dc_wi m x0 6 (m.1 x0 4)) x0 7 ((dc_wi m x0 6 (m.1 x0 4)).1 (x0 + 1) (Int32.toNatClampNeg ((dc_wi m x0 6 (m.1 x0 4)).1 x0 4)))) x0 4 (((dc_wi (dc_wi m x0 6 (m.1 x0 4)) x0 7 ((dc_wi m x0 6 (m.1 x0 4)).1 (x0 + 1) (Int32.toNatClampNeg ((dc_wi m x0 6 (m.1 x0 4)).1 x0 4)))).1 x0 4) + (1 : Int32))) x0 5 (3 : Int32))) else (if (Int32.toInt ((dc_wi (dc_wi (dc_wi m x0 6 (m.1 x0 4)) x0 7 ((dc_wi m x0 6 (m.1 x0 4)).1 (x0 + 1) (Int32.toNatClampNeg ((dc_wi m x0 6 (m.1 x0 4)).1 x0 4)))) x0 4 (((dc_wi (dc_wi m x0 6 (m.1 x0 4)) x0 7 ((dc_wi m x0 6 (m.1 x0 4)).1 (x0 + 1) (Int32.toNatClampNeg ((dc_wi m x0 6 (m.1 x0 4)).1 x0 4)))).1 x0 4) + (1 : Int32))).1 x0 7)) = 45 then some ((dc_wi (dc_wi (dc_wi (dc_wi m x0 6 (m.1 x0 4)) x0 7 ((dc_wi m x0 6 (m.1 x0 4)).1 (x0 + 1) (Int32.toNatClampNeg ((dc_wi m x0 6 (m.1 x0 4)).1 x0 4)))) x0 4 (((dc_wi (dc_wi m x0 6 (m.1 x0 4)) x0 7 ((dc_wi m x0 6 (m.1 x0 4)).1 (x0 + 1) (Int32.toNatClampNeg ((dc_wi m x0 6 (m.1 x0 4)).1 x0 4)))).1 x0 4) + (1 : Int32))) x0 5 (3 : Int32))) else (if (Int32.toInt ((dc_wi (dc_wi (dc_wi m x0 6 (m.1 x0 4)) x0 7 ((dc_wi m x0 6 (m.1 x0 4)).1 (x0 + 1) (Int32.toNatClampNeg ((dc_wi m x0 6 (m.1 x0 4)).1 x0 4)))) x0 4 (((dc_wi (dc_wi m x0 6 (m.1 x0 4)) x0 7 ((dc_wi m x0 6 (m.1 x0 4)).1 (x0 + 1) (Int32.toNatClampNeg ((dc_wi m x0 6 (m.1 x0 4)).1 x0 4)))).1 x0 4) + (1 : Int32))).1 x0 7)) = 47 then some ((dc_wi (dc_wi (dc_wi (dc_wi m x0 6 (m.1 x0 4)) x0 7 ((dc_wi m x0 6 (m.1 x0 4)).1 (x0 + 1) (Int32.toNatClampNeg ((dc_wi m x0 6 (m.1 x0 4)).1 x0 4)))) x0 4 (((dc_wi (dc_wi m x0 6 (m.1 x0 4)) x0 7 ((dc_wi m x0 6 (m.1 x0 4)).1 (x0 + 1) (Int32.toNatClampNeg ((dc_wi m x0 6 (m.1 x0 4)).1 x0 4)))).1 x0 4) + (1 : Int32))) x0 5 (3 : Int32))) else (if (Int32.toInt ((dc_wi (dc_wi (dc_wi m x0 6 (m.1 x0 4)) x0 7 ((dc_wi m x0 6 (m.1 x0 4)).1 (x0 + 1) (Int32.toNatClampNeg ((dc_wi m x0 6 (m.1 x0 4)).1 x0 4)))) x0 4 (((dc_wi (dc_wi m x0 6 (m.1 x0 4)) x0 7 ((dc_wi m x0 6 (m.1 x0 4)).1 (x0 + 1) (Int32.toNatClampNeg ((dc_wi m x0 6 (m.1 x0 4)).1 x0 4)))).1 x0 4) + (1 : Int32))).1 x0 7)) = 62 then some ((dc_wi (dc_wi (dc_wi (dc_wi m x0 6 (m.1 x0 4)) x0 7 ((dc_wi m x0 6 (m.1 x0 4)).1 (x0 + 1) (Int32.toNatClampNeg ((dc_wi m x0 6 (m.1 x0 4)).1 x0 4)))) x0 4 (((dc_wi (dc_wi m x0 6 (m.1 x0 4)) x0 7 ((dc_wi m x0 6 (m.1 x0 4)).1 (x0 + 1) (Int32.toNatClampNeg ((dc_wi m x0 6 (m.1 x0 4)).1 x0 4)))).1 x0 4) + (1 : Int32))) x0 5 (3 : Int32))) else (if ¬ (Int32.toInt ((dc_wi (dc_wi (dc_wi m x0 6 (m.1 x0 4)) x0 7 ((dc_wi m x0 6 (m.1 x0 4)).1 (x0 + 1) (Int32.toNatClampNeg ((dc_wi m x0 6 (m.1 x0 4)).1 x0 4)))) x0 4 (((dc_wi (dc_wi m x0 6 (m.1 x0 4)) x0 7 ((dc_wi m x0 6 (m.1 x0 4)).1 (x0 + 1) (Int32.toNatClampNeg ((dc_wi m x0 6 (m.1 x0 4)).1 x0 4)))).1 x0 4) + (1 : Int32))).1 x0 7)) = 59 then (dc_let (d_X4_refuse x0 (1 : Int32) ((dc_wi (dc_wi (dc_wi m x0 6 (m.1 x0 4)) x0 7 ((dc_wi m x0 6 (m.1 x0 4)).1 (x0 + 1) (Int32.toNatClampNeg ((dc_wi m x0 6 (m.1 x0 4)).1 x0 4)))) x0 4 (((dc_wi (dc_wi m x0 6 (m.1 x0 4)) x0 7 ((dc_wi m x0 6 (m.1 x0 4)).1 (x0 + 1) (Int32.toNatClampNeg ((dc_wi m x0 6 (m.1 x0 4)).1 x0 4)))).1 x0 4) + (1 : Int32))).1 x0 6) (dc_wi (dc_wi (dc_wi m x0 6 (m.1 x0 4)) x0 7 ((dc_wi m x0 6 (m.1 x0 4)).1 (x0 + 1) (Int32.toNatClampNeg ((dc_wi m x0 6 (m.1 x0 4)).1 x0 4)))) x0 4 (((dc_wi (dc_wi m x0 6 (m.1 x0 4)) x0 7 ((dc_wi m x0 6 (m.1 x0 4)).1 (x0 + 1) (Int32.toNatClampNeg ((dc_wi m x0 6 (m.1 x0 4)).1 x0 4)))).1 x0 4) + (1 : Int32)))) (fun q1 => some (q1))) else some ((dc_wi (dc_wi (dc_wi (dc_wi m x0 6 (m.1 x0 4)) x0 7 ((dc_wi m x0 6 (m.1 x0 4)).1 (x0 + 1) (Int32.toNatClampNeg ((dc_wi m x0 6 (m.1 x0 4)).1 x0 4)))) x0 4 (((dc_wi (dc_wi m x0 6 (m.1 x0 4)) x0 7 ((dc_wi m x0 6 (m.1 x0 4)).1 (x0 + 1) (Int32.toNatClampNeg ((dc_wi m x0 6 (m.1 x0 4)).1 x0 4)))).1 x0 4) + (1 : Int32))) x0 5 (3 : Int32)))))))) else (if (Int32.toInt ((dc_wi (dc_wi (dc_wi (dc_wi m x0 6 (m.1 x0 4)) x0 7 ((dc_wi m x0 6 (m.1 x0 4)).1 (x0 + 1) (Int32.toNatClampNeg ((dc_wi m x0 6 (m.1 x0 4)).1 x0 4)))) x0 4 (((dc_wi (dc_wi m x0 6 (m.1 x0 4)) x0 7 ((dc_wi m x0 6 (m.1 x0 4)).1 (x0 + 1) (Int32.toNatClampNeg ((dc_wi m x0 6 (m.1 x0 4)).1 x0 4)))).1 x0 4) + (1 : Int32))) x0 5 (2 : Int32)).1 x0 1)) ≤ (Int32.toInt ((dc_wi (dc_wi (dc_wi (dc_wi m x0 6 (m.1 x0 4)) x0 7 ((dc_wi m x0 6 (m.1 x0 4)).1 (x0 + 1) (Int32.toNatClampNeg ((dc_wi m x0 6 (m.1 x0 4)).1 x0 4)))) x0 4 (((dc_wi (dc_wi m x0 6 (m.1 x0 4)) x0 7 ((dc_wi m x0 6 (m.1 x0 4)).1 (x0 + 1) (Int32.toNatClampNeg ((dc_wi m x0 6 (m.1 x0 4)).1 x0 4)))).1 x0 4) + (1 : Int32))) x0 5 (2 : Int32)).1 x0 4)) then some ((dc_wi (dc_wi (dc_wi (dc_wi m x0 6 (m.1 x0 4)) x0 7 ((dc_wi m x0 6 (m.1 x0 4)).1 (x0 + 1) (Int32.toNatClampNeg ((dc_wi m x0 6 (m.1 x0 4)).1 x0 4)))) x0 4 (((dc_wi (dc_wi m x0 6 (m.1 x0 4)) x0 7 ((dc_wi m x0 6 (m.1 x0 4)).1 (x0 + 1) (Int32.toNatClampNeg ((dc_wi m x0 6 (m.1 x0 4)).1 x0 4)))).1 x0 4) + (1 : Int32))) x0 5 (2 : Int32))) else (if (Int32.toInt (d_X4_isFigure ((dc_wi (dc_wi (dc_wi (dc_wi m x0 6 (m.1 x0 4)) x0 7 ((dc_wi m x0 6 (m.1 x0 4)).1 (x0 + 1) (Int32.toNatClampNeg ((dc_wi m x0 6 (m.1 x0 4)).1 x0 4)))) x0 4 (((dc_wi (dc_wi m x0 6 (m.1 x0 4)) x0 7 ((dc_wi m x0 6 (m.1 x0 4)).1 (x0 + 1) (Int32.toNatClampNeg ((dc_wi m x0 6 (m.1 x0 4)).1 x0 4)))).1 x0 4) + (1 : Int32))) x0 5 (2 : Int32)).1 (x0 + 1) (Int32.toNatClampNeg ((dc_wi (dc_wi (dc_wi (dc_wi m x0 6 (m.1 x0 4)) x0 7 ((dc_wi m x0 6 (m.1 x0 4)).1 (x0 + 1) (Int32.toNatClampNeg ((dc_wi m x0 6 (m.1 x0 4)).1 x0 4)))) x0 4 (((dc_wi (dc_wi m x0 6 (m.1 x0 4)) x0 7 ((dc_wi m x0 6 (m.1 x0 4)).1 (x0 + 1) (Int32.toNatClampNeg ((dc_wi m x0 6 (m.1 x0 4)).1 x0 4)))).1 x0 4) + (1 : Int32))) x0 5 (2 : Int32)).1 x0 4))) (dc_wi (dc_wi (dc_wi (dc_wi m x0 6 (m.1 x0 4)) x0 7 ((dc_wi m x0 6 (m.1 x0 4)).1 (x0 + 1) (Int32.toNatClampNeg ((dc_wi m x0 6 (m.1 x0 4)).1 x0 4)))) x0 4 (((dc_wi (dc_wi m x0 6 (m.1 x0 4)) x0 7 ((dc_wi m x0 6 (m.1 x0 4)).1 (x0 + 1) (Int32.toNatClampNeg ((dc_wi m x0 6 (m.1 x0 4)).1 x0 4)))).1 x0 4) + (1 : Int32))) x0 5 (2 : Int32)))) = 0 then some ((dc_wi (dc_wi (dc_wi (dc_wi m x0 6 (m.1 x0 4)) x0 7 ((dc_wi m x0 6 (m.1 x0 4)).1 (x0 + 1) (Int32.toNatClampNeg ((dc_wi m x0 6 (m.1 x0 4)).1 x0 4)))) x0 4 (((dc_wi (dc_wi m x0 6 (m.1 x0 4)) x0 7 ((dc_wi m x0 6 (m.1 x0 4)).1 (x0 + 1) (Int32.toNatClampNeg ((dc_wi m x0 6 (m.1 x0 4)).1 x0 4)))).1 x0 4) + (1 : Int32))) x0 5 (2 : Int32))) else (dc_let (d_X4_refuse x0 (1 : Int32) ((dc_wi (dc_wi (dc_wi (dc_wi m x0 6 (m.1 x0 4)) x0 7 ((dc_wi m x0 6 (m.1 x0 4)).1 (x0 + 1) (Int32.toNatClampNeg ((dc_wi m x0 6 (m.1 x0 4)).1 x0 4)))) x0 4 (((dc_wi (dc_wi m x0 6 (m.1 x0 4)) x0 7 ((dc_wi m x0 6 (m.1 x0 4)).1 (x0 + 1) (Int32.toNatClampNeg ((dc_wi m x0 6 (m.1 x0 4)).1 x0 4)))).1 x0 4) + (1 : Int32))) x0 5 (2 : Int32)).1 x0 6) (dc_wi (dc_wi (dc_wi (dc_wi m x0 6 (m.1 x0 4)) x0 7 ((dc_wi m x0 6 (m.1 x0 4)).1 (x0 + 1) (Int32.toNatClampNeg ((dc_wi m x0 6 (m.1 x0 4)).1 x0 4)))) x0 4 (((dc_wi (dc_wi m x0 6 (m.1 x0 4)) x0 7 ((dc_wi m x0 6 (m.1 x0 4)).1 (x0 + 1) (Int32.toNatClampNeg ((dc_wi m x0 6 (m.1 x0 4)).1 x0 4)))).1 x0 4) + (1 : Int32))) x0 5 (2 : Int32))) (fun q2 => some (q2)))))) else (d_X4_take_l109 x0 (dc_wi (dc_wi (dc_wi (dc_wi m x0 6 (m.1 x0 4)) x0 7 ((dc_wi m x0 6 (m.1 x0 4)).1 (x0 + 1) (Int32.toNatClampNeg ((dc_wi m x0 6 (m.1 x0 4)).1 x0 4)))) x0 4 (((dc_wi (dc_wi m x0 6 (m.1 x0 4)) x0 7 ((dc_wi m x0 6 (m.1 x0 4)).1 (x0 + 1) (Int32.toNatClampNeg ((dc_wi m x0 6 (m.1 x0 4)).1 x0 4)))).1 x0 4) + (1 : Int32))) x0 5 (1 : Int32)))) else some ((dc_wi (dc_wi m x0 6 (m.1 x0 4)) x0 5 (0 : Int32))))
set_option maxHeartbeats 8000000 in
theorem k_X4_take_b46 {u : Nat} {N : Nat} {Φ : (Option dc_M) → Option Value → dc_M → Prop} (x0 : Nat) (m : dc_M) (kR : ∀  (m : dc_M), Φ (some (m)) (none) m)  {lv : ab_L} (f0 : ab_lk lv 0 = some (.ref x0)) : dc_pv u N ab_M_X4_take 46 lv [] m (Φ (d_X4_take_b46 x0 m)) := by
  refine dc_pv.mono (dc_ok (C := C_X4_take) (S := S_X4_take) CO_X4_take 400 46 [(0, .ref x0)] lv [] m (dc_sub_cons f0 (dc_sub_nil)) ?_) (Nat.le_succ N)
  unfold d_X4_take_b46
  refine dg_s (pc' := 47) [.ref x0] rfl (fun _ => rfl) rfl ?_
  refine dg_s (pc' := 48) [.ref x0, .ref x0] rfl (fun _ => rfl) rfl ?_
  refine dg_s (pc' := 51) [.int (m.1 x0 4), .ref x0] rfl (fun _ => rfl) rfl ?_
  refine dg_m (pc' := 54) (dc_wi m x0 6 (m.1 x0 4)) [] rfl (fun _ => rfl) rfl ?_
  refine dg_s (pc' := 55) [.ref x0] rfl (fun _ => rfl) rfl ?_
  refine dg_s (pc' := 58) [.int ((dc_wi m x0 6 (m.1 x0 4)).1 x0 4)] rfl (fun _ => rfl) rfl ?_
  refine dg_s (pc' := 59) [.ref x0, .int ((dc_wi m x0 6 (m.1 x0 4)).1 x0 4)] rfl (fun _ => rfl) rfl ?_
  refine dg_s (pc' := 62) [.int ((dc_wi m x0 6 (m.1 x0 4)).1 x0 1), .int ((dc_wi m x0 6 (m.1 x0 4)).1 x0 4)] rfl (fun _ => rfl) rfl ?_
  refine dw_if (fun t => Φ t) ((Int32.toInt ((dc_wi m x0 6 (m.1 x0 4)).1 x0 4)) < (Int32.toInt ((dc_wi m x0 6 (m.1 x0 4)).1 x0 1))) [] 71 65 rfl (fun _ => rfl) (fun c0 => ?_) (fun c0 => ?_)
  · refine dw_g rfl ?_
    refine dg_s (pc' := 72) [.ref x0] rfl (fun _ => rfl) rfl ?_
    refine dg_s (pc' := 73) [.ref x0, .ref x0] rfl (fun _ => rfl) rfl ?_
    refine dg_s (pc' := 76) [.ref (x0 + 1), .ref x0] rfl (fun _ => rfl) rfl ?_
    refine dg_s (pc' := 77) [.ref x0, .ref (x0 + 1), .ref x0] rfl (fun _ => rfl) rfl ?_
    refine dg_s (pc' := 80) [.int ((dc_wi m x0 6 (m.1 x0 4)).1 x0 4), .ref (x0 + 1), .ref x0] rfl (fun _ => rfl) rfl ?_
    refine dg_s (pc' := 81) [.int ((dc_wi m x0 6 (m.1 x0 4)).1 (x0 + 1) (Int32.toNatClampNeg ((dc_wi m x0 6 (m.1 x0 4)).1 x0 4))), .ref x0] rfl (fun _ => rfl) rfl ?_
    refine dg_m (pc' := 84) (dc_wi (dc_wi m x0 6 (m.1 x0 4)) x0 7 ((dc_wi m x0 6 (m.1 x0 4)).1 (x0 + 1) (Int32.toNatClampNeg ((dc_wi m x0 6 (m.1 x0 4)).1 x0 4)))) [] rfl (fun _ => rfl) rfl ?_
    refine dg_s (pc' := 85) [.ref x0] rfl (fun _ => rfl) rfl ?_
    refine dg_s (pc' := 86) [.ref x0, .ref x0] rfl (fun _ => rfl) rfl ?_
    refine dg_s (pc' := 89) [.int ((dc_wi (dc_wi m x0 6 (m.1 x0 4)) x0 7 ((dc_wi m x0 6 (m.1 x0 4)).1 (x0 + 1) (Int32.toNatClampNeg ((dc_wi m x0 6 (m.1 x0 4)).1 x0 4)))).1 x0 4), .ref x0] rfl (fun _ => rfl) rfl ?_
    refine dg_s (pc' := 90) [.int (1 : Int32), .int ((dc_wi (dc_wi m x0 6 (m.1 x0 4)) x0 7 ((dc_wi m x0 6 (m.1 x0 4)).1 (x0 + 1) (Int32.toNatClampNeg ((dc_wi m x0 6 (m.1 x0 4)).1 x0 4)))).1 x0 4), .ref x0] rfl (fun _ => rfl) rfl ?_
    refine dg_s (pc' := 91) [.int (((dc_wi (dc_wi m x0 6 (m.1 x0 4)) x0 7 ((dc_wi m x0 6 (m.1 x0 4)).1 (x0 + 1) (Int32.toNatClampNeg ((dc_wi m x0 6 (m.1 x0 4)).1 x0 4)))).1 x0 4) + (1 : Int32)), .ref x0] rfl (fun _ => rfl) rfl ?_
    refine dg_m (pc' := 94) (dc_wi (dc_wi (dc_wi m x0 6 (m.1 x0 4)) x0 7 ((dc_wi m x0 6 (m.1 x0 4)).1 (x0 + 1) (Int32.toNatClampNeg ((dc_wi m x0 6 (m.1 x0 4)).1 x0 4)))) x0 4 (((dc_wi (dc_wi m x0 6 (m.1 x0 4)) x0 7 ((dc_wi m x0 6 (m.1 x0 4)).1 (x0 + 1) (Int32.toNatClampNeg ((dc_wi m x0 6 (m.1 x0 4)).1 x0 4)))).1 x0 4) + (1 : Int32))) [] rfl (fun _ => rfl) rfl ?_
    refine dg_s (pc' := 95) [.ref x0] rfl (fun _ => rfl) rfl ?_
    refine dg_s (pc' := 98) [.int ((dc_wi (dc_wi (dc_wi m x0 6 (m.1 x0 4)) x0 7 ((dc_wi m x0 6 (m.1 x0 4)).1 (x0 + 1) (Int32.toNatClampNeg ((dc_wi m x0 6 (m.1 x0 4)).1 x0 4)))) x0 4 (((dc_wi (dc_wi m x0 6 (m.1 x0 4)) x0 7 ((dc_wi m x0 6 (m.1 x0 4)).1 (x0 + 1) (Int32.toNatClampNeg ((dc_wi m x0 6 (m.1 x0 4)).1 x0 4)))).1 x0 4) + (1 : Int32))).1 x0 7)] rfl (fun _ => rfl) rfl ?_
    refine dg_s (pc' := 101) [.int (d_X4_isSmallLetter ((dc_wi (dc_wi (dc_wi m x0 6 (m.1 x0 4)) x0 7 ((dc_wi m x0 6 (m.1 x0 4)).1 (x0 + 1) (Int32.toNatClampNeg ((dc_wi m x0 6 (m.1 x0 4)).1 x0 4)))) x0 4 (((dc_wi (dc_wi m x0 6 (m.1 x0 4)) x0 7 ((dc_wi m x0 6 (m.1 x0 4)).1 (x0 + 1) (Int32.toNatClampNeg ((dc_wi m x0 6 (m.1 x0 4)).1 x0 4)))).1 x0 4) + (1 : Int32))).1 x0 7) (dc_wi (dc_wi (dc_wi m x0 6 (m.1 x0 4)) x0 7 ((dc_wi m x0 6 (m.1 x0 4)).1 (x0 + 1) (Int32.toNatClampNeg ((dc_wi m x0 6 (m.1 x0 4)).1 x0 4)))) x0 4 (((dc_wi (dc_wi m x0 6 (m.1 x0 4)) x0 7 ((dc_wi m x0 6 (m.1 x0 4)).1 (x0 + 1) (Int32.toNatClampNeg ((dc_wi m x0 6 (m.1 x0 4)).1 x0 4)))).1 x0 4) + (1 : Int32))))] rfl (fun _ => rfl) rfl ?_
    refine dw_if (fun t => Φ t) ((Int32.toInt (d_X4_isSmallLetter ((dc_wi (dc_wi (dc_wi m x0 6 (m.1 x0 4)) x0 7 ((dc_wi m x0 6 (m.1 x0 4)).1 (x0 + 1) (Int32.toNatClampNeg ((dc_wi m x0 6 (m.1 x0 4)).1 x0 4)))) x0 4 (((dc_wi (dc_wi m x0 6 (m.1 x0 4)) x0 7 ((dc_wi m x0 6 (m.1 x0 4)).1 (x0 + 1) (Int32.toNatClampNeg ((dc_wi m x0 6 (m.1 x0 4)).1 x0 4)))).1 x0 4) + (1 : Int32))).1 x0 7) (dc_wi (dc_wi (dc_wi m x0 6 (m.1 x0 4)) x0 7 ((dc_wi m x0 6 (m.1 x0 4)).1 (x0 + 1) (Int32.toNatClampNeg ((dc_wi m x0 6 (m.1 x0 4)).1 x0 4)))) x0 4 (((dc_wi (dc_wi m x0 6 (m.1 x0 4)) x0 7 ((dc_wi m x0 6 (m.1 x0 4)).1 (x0 + 1) (Int32.toNatClampNeg ((dc_wi m x0 6 (m.1 x0 4)).1 x0 4)))).1 x0 4) + (1 : Int32))))) = 0) [] 148 104 rfl (fun _ => rfl) (fun c1 => ?_) (fun c1 => ?_)
    · refine dw_g rfl ?_
      refine dg_s (pc' := 149) [.ref x0] rfl (fun _ => rfl) rfl ?_
      refine dg_s (pc' := 152) [.int ((dc_wi (dc_wi (dc_wi m x0 6 (m.1 x0 4)) x0 7 ((dc_wi m x0 6 (m.1 x0 4)).1 (x0 + 1) (Int32.toNatClampNeg ((dc_wi m x0 6 (m.1 x0 4)).1 x0 4)))) x0 4 (((dc_wi (dc_wi m x0 6 (m.1 x0 4)) x0 7 ((dc_wi m x0 6 (m.1 x0 4)).1 (x0 + 1) (Int32.toNatClampNeg ((dc_wi m x0 6 (m.1 x0 4)).1 x0 4)))).1 x0 4) + (1 : Int32))).1 x0 7)] rfl (fun _ => rfl) rfl ?_
      refine dg_s (pc' := 155) [.int (d_X4_isFigure ((dc_wi (dc_wi (dc_wi m x0 6 (m.1 x0 4)) x0 7 ((dc_wi m x0 6 (m.1 x0 4)).1 (x0 + 1) (Int32.toNatClampNeg ((dc_wi m x0 6 (m.1 x0 4)).1 x0 4)))) x0 4 (((dc_wi (dc_wi m x0 6 (m.1 x0 4)) x0 7 ((dc_wi m x0 6 (m.1 x0 4)).1 (x0 + 1) (Int32.toNatClampNeg ((dc_wi m x0 6 (m.1 x0 4)).1 x0 4)))).1 x0 4) + (1 : Int32))).1 x0 7) (dc_wi (dc_wi (dc_wi m x0 6 (m.1 x0 4)) x0 7 ((dc_wi m x0 6 (m.1 x0 4)).1 (x0 + 1) (Int32.toNatClampNeg ((dc_wi m x0 6 (m.1 x0 4)).1 x0 4)))) x0 4 (((dc_wi (dc_wi m x0 6 (m.1 x0 4)) x0 7 ((dc_wi m x0 6 (m.1 x0 4)).1 (x0 + 1) (Int32.toNatClampNeg ((dc_wi m x0 6 (m.1 x0 4)).1 x0 4)))).1 x0 4) + (1 : Int32))))] rfl (fun _ => rfl) rfl ?_
      refine dw_if (fun t => Φ t) ((Int32.toInt (d_X4_isFigure ((dc_wi (dc_wi (dc_wi m x0 6 (m.1 x0 4)) x0 7 ((dc_wi m x0 6 (m.1 x0 4)).1 (x0 + 1) (Int32.toNatClampNeg ((dc_wi m x0 6 (m.1 x0 4)).1 x0 4)))) x0 4 (((dc_wi (dc_wi m x0 6 (m.1 x0 4)) x0 7 ((dc_wi m x0 6 (m.1 x0 4)).1 (x0 + 1) (Int32.toNatClampNeg ((dc_wi m x0 6 (m.1 x0 4)).1 x0 4)))).1 x0 4) + (1 : Int32))).1 x0 7) (dc_wi (dc_wi (dc_wi m x0 6 (m.1 x0 4)) x0 7 ((dc_wi m x0 6 (m.1 x0 4)).1 (x0 + 1) (Int32.toNatClampNeg ((dc_wi m x0 6 (m.1 x0 4)).1 x0 4)))) x0 4 (((dc_wi (dc_wi m x0 6 (m.1 x0 4)) x0 7 ((dc_wi m x0 6 (m.1 x0 4)).1 (x0 + 1) (Int32.toNatClampNeg ((dc_wi m x0 6 (m.1 x0 4)).1 x0 4)))).1 x0 4) + (1 : Int32))))) = 0) [] 201 158 rfl (fun _ => rfl) (fun c2 => ?_) (fun c2 => ?_)
      · refine dw_g rfl ?_
        refine dg_s (pc' := 202) [.ref x0] rfl (fun _ => rfl) rfl ?_
        refine dg_s (pc' := 205) [.int ((dc_wi (dc_wi (dc_wi m x0 6 (m.1 x0 4)) x0 7 ((dc_wi m x0 6 (m.1 x0 4)).1 (x0 + 1) (Int32.toNatClampNeg ((dc_wi m x0 6 (m.1 x0 4)).1 x0 4)))) x0 4 (((dc_wi (dc_wi m x0 6 (m.1 x0 4)) x0 7 ((dc_wi m x0 6 (m.1 x0 4)).1 (x0 + 1) (Int32.toNatClampNeg ((dc_wi m x0 6 (m.1 x0 4)).1 x0 4)))).1 x0 4) + (1 : Int32))).1 x0 7)] rfl (fun _ => rfl) rfl ?_
        refine dg_s (pc' := 207) [.int (43 : Int32), .int ((dc_wi (dc_wi (dc_wi m x0 6 (m.1 x0 4)) x0 7 ((dc_wi m x0 6 (m.1 x0 4)).1 (x0 + 1) (Int32.toNatClampNeg ((dc_wi m x0 6 (m.1 x0 4)).1 x0 4)))) x0 4 (((dc_wi (dc_wi m x0 6 (m.1 x0 4)) x0 7 ((dc_wi m x0 6 (m.1 x0 4)).1 (x0 + 1) (Int32.toNatClampNeg ((dc_wi m x0 6 (m.1 x0 4)).1 x0 4)))).1 x0 4) + (1 : Int32))).1 x0 7)] rfl (fun _ => rfl) rfl ?_
        refine dw_if (fun t => Φ t) ((Int32.toInt ((dc_wi (dc_wi (dc_wi m x0 6 (m.1 x0 4)) x0 7 ((dc_wi m x0 6 (m.1 x0 4)).1 (x0 + 1) (Int32.toNatClampNeg ((dc_wi m x0 6 (m.1 x0 4)).1 x0 4)))) x0 4 (((dc_wi (dc_wi m x0 6 (m.1 x0 4)) x0 7 ((dc_wi m x0 6 (m.1 x0 4)).1 (x0 + 1) (Int32.toNatClampNeg ((dc_wi m x0 6 (m.1 x0 4)).1 x0 4)))).1 x0 4) + (1 : Int32))).1 x0 7)) = 43) [] 246 210 rfl (fun _ => rfl) (fun c3 => ?_) (fun c3 => ?_)
        · refine dw_g rfl ?_
          refine dg_s (pc' := 247) [.ref x0] rfl (fun _ => rfl) rfl ?_
          refine dg_s (pc' := 248) [.int (3 : Int32), .ref x0] rfl (fun _ => rfl) rfl ?_
          refine dg_m (pc' := 251) (dc_wi (dc_wi (dc_wi (dc_wi m x0 6 (m.1 x0 4)) x0 7 ((dc_wi m x0 6 (m.1 x0 4)).1 (x0 + 1) (Int32.toNatClampNeg ((dc_wi m x0 6 (m.1 x0 4)).1 x0 4)))) x0 4 (((dc_wi (dc_wi m x0 6 (m.1 x0 4)) x0 7 ((dc_wi m x0 6 (m.1 x0 4)).1 (x0 + 1) (Int32.toNatClampNeg ((dc_wi m x0 6 (m.1 x0 4)).1 x0 4)))).1 x0 4) + (1 : Int32))) x0 5 (3 : Int32)) [] rfl (fun _ => rfl) rfl ?_
          refine dg_s (pc' := 263) [] rfl (fun _ => rfl) rfl ?_
          exact dw_r (some (.inl (none, (dc_wi (dc_wi (dc_wi (dc_wi m x0 6 (m.1 x0 4)) x0 7 ((dc_wi m x0 6 (m.1 x0 4)).1 (x0 + 1) (Int32.toNatClampNeg ((dc_wi m x0 6 (m.1 x0 4)).1 x0 4)))) x0 4 (((dc_wi (dc_wi m x0 6 (m.1 x0 4)) x0 7 ((dc_wi m x0 6 (m.1 x0 4)).1 (x0 + 1) (Int32.toNatClampNeg ((dc_wi m x0 6 (m.1 x0 4)).1 x0 4)))).1 x0 4) + (1 : Int32))) x0 5 (3 : Int32))))) rfl (fun _ => rfl) (kR _)
        · refine dw_g rfl ?_
          refine dg_s (pc' := 211) [.ref x0] rfl (fun _ => rfl) rfl ?_
          refine dg_s (pc' := 214) [.int ((dc_wi (dc_wi (dc_wi m x0 6 (m.1 x0 4)) x0 7 ((dc_wi m x0 6 (m.1 x0 4)).1 (x0 + 1) (Int32.toNatClampNeg ((dc_wi m x0 6 (m.1 x0 4)).1 x0 4)))) x0 4 (((dc_wi (dc_wi m x0 6 (m.1 x0 4)) x0 7 ((dc_wi m x0 6 (m.1 x0 4)).1 (x0 + 1) (Int32.toNatClampNeg ((dc_wi m x0 6 (m.1 x0 4)).1 x0 4)))).1 x0 4) + (1 : Int32))).1 x0 7)] rfl (fun _ => rfl) rfl ?_
          refine dg_s (pc' := 216) [.int (45 : Int32), .int ((dc_wi (dc_wi (dc_wi m x0 6 (m.1 x0 4)) x0 7 ((dc_wi m x0 6 (m.1 x0 4)).1 (x0 + 1) (Int32.toNatClampNeg ((dc_wi m x0 6 (m.1 x0 4)).1 x0 4)))) x0 4 (((dc_wi (dc_wi m x0 6 (m.1 x0 4)) x0 7 ((dc_wi m x0 6 (m.1 x0 4)).1 (x0 + 1) (Int32.toNatClampNeg ((dc_wi m x0 6 (m.1 x0 4)).1 x0 4)))).1 x0 4) + (1 : Int32))).1 x0 7)] rfl (fun _ => rfl) rfl ?_
          refine dw_if (fun t => Φ t) ((Int32.toInt ((dc_wi (dc_wi (dc_wi m x0 6 (m.1 x0 4)) x0 7 ((dc_wi m x0 6 (m.1 x0 4)).1 (x0 + 1) (Int32.toNatClampNeg ((dc_wi m x0 6 (m.1 x0 4)).1 x0 4)))) x0 4 (((dc_wi (dc_wi m x0 6 (m.1 x0 4)) x0 7 ((dc_wi m x0 6 (m.1 x0 4)).1 (x0 + 1) (Int32.toNatClampNeg ((dc_wi m x0 6 (m.1 x0 4)).1 x0 4)))).1 x0 4) + (1 : Int32))).1 x0 7)) = 45) [] 246 219 rfl (fun _ => rfl) (fun c4 => ?_) (fun c4 => ?_)
          · refine dw_g rfl ?_
            refine dg_s (pc' := 247) [.ref x0] rfl (fun _ => rfl) rfl ?_
            refine dg_s (pc' := 248) [.int (3 : Int32), .ref x0] rfl (fun _ => rfl) rfl ?_
            refine dg_m (pc' := 251) (dc_wi (dc_wi (dc_wi (dc_wi m x0 6 (m.1 x0 4)) x0 7 ((dc_wi m x0 6 (m.1 x0 4)).1 (x0 + 1) (Int32.toNatClampNeg ((dc_wi m x0 6 (m.1 x0 4)).1 x0 4)))) x0 4 (((dc_wi (dc_wi m x0 6 (m.1 x0 4)) x0 7 ((dc_wi m x0 6 (m.1 x0 4)).1 (x0 + 1) (Int32.toNatClampNeg ((dc_wi m x0 6 (m.1 x0 4)).1 x0 4)))).1 x0 4) + (1 : Int32))) x0 5 (3 : Int32)) [] rfl (fun _ => rfl) rfl ?_
            refine dg_s (pc' := 263) [] rfl (fun _ => rfl) rfl ?_
            exact dw_r (some (.inl (none, (dc_wi (dc_wi (dc_wi (dc_wi m x0 6 (m.1 x0 4)) x0 7 ((dc_wi m x0 6 (m.1 x0 4)).1 (x0 + 1) (Int32.toNatClampNeg ((dc_wi m x0 6 (m.1 x0 4)).1 x0 4)))) x0 4 (((dc_wi (dc_wi m x0 6 (m.1 x0 4)) x0 7 ((dc_wi m x0 6 (m.1 x0 4)).1 (x0 + 1) (Int32.toNatClampNeg ((dc_wi m x0 6 (m.1 x0 4)).1 x0 4)))).1 x0 4) + (1 : Int32))) x0 5 (3 : Int32))))) rfl (fun _ => rfl) (kR _)
          · refine dw_g rfl ?_
            refine dg_s (pc' := 220) [.ref x0] rfl (fun _ => rfl) rfl ?_
            refine dg_s (pc' := 223) [.int ((dc_wi (dc_wi (dc_wi m x0 6 (m.1 x0 4)) x0 7 ((dc_wi m x0 6 (m.1 x0 4)).1 (x0 + 1) (Int32.toNatClampNeg ((dc_wi m x0 6 (m.1 x0 4)).1 x0 4)))) x0 4 (((dc_wi (dc_wi m x0 6 (m.1 x0 4)) x0 7 ((dc_wi m x0 6 (m.1 x0 4)).1 (x0 + 1) (Int32.toNatClampNeg ((dc_wi m x0 6 (m.1 x0 4)).1 x0 4)))).1 x0 4) + (1 : Int32))).1 x0 7)] rfl (fun _ => rfl) rfl ?_
            refine dg_s (pc' := 225) [.int (47 : Int32), .int ((dc_wi (dc_wi (dc_wi m x0 6 (m.1 x0 4)) x0 7 ((dc_wi m x0 6 (m.1 x0 4)).1 (x0 + 1) (Int32.toNatClampNeg ((dc_wi m x0 6 (m.1 x0 4)).1 x0 4)))) x0 4 (((dc_wi (dc_wi m x0 6 (m.1 x0 4)) x0 7 ((dc_wi m x0 6 (m.1 x0 4)).1 (x0 + 1) (Int32.toNatClampNeg ((dc_wi m x0 6 (m.1 x0 4)).1 x0 4)))).1 x0 4) + (1 : Int32))).1 x0 7)] rfl (fun _ => rfl) rfl ?_
            refine dw_if (fun t => Φ t) ((Int32.toInt ((dc_wi (dc_wi (dc_wi m x0 6 (m.1 x0 4)) x0 7 ((dc_wi m x0 6 (m.1 x0 4)).1 (x0 + 1) (Int32.toNatClampNeg ((dc_wi m x0 6 (m.1 x0 4)).1 x0 4)))) x0 4 (((dc_wi (dc_wi m x0 6 (m.1 x0 4)) x0 7 ((dc_wi m x0 6 (m.1 x0 4)).1 (x0 + 1) (Int32.toNatClampNeg ((dc_wi m x0 6 (m.1 x0 4)).1 x0 4)))).1 x0 4) + (1 : Int32))).1 x0 7)) = 47) [] 246 228 rfl (fun _ => rfl) (fun c5 => ?_) (fun c5 => ?_)
            · refine dw_g rfl ?_
              refine dg_s (pc' := 247) [.ref x0] rfl (fun _ => rfl) rfl ?_
              refine dg_s (pc' := 248) [.int (3 : Int32), .ref x0] rfl (fun _ => rfl) rfl ?_
              refine dg_m (pc' := 251) (dc_wi (dc_wi (dc_wi (dc_wi m x0 6 (m.1 x0 4)) x0 7 ((dc_wi m x0 6 (m.1 x0 4)).1 (x0 + 1) (Int32.toNatClampNeg ((dc_wi m x0 6 (m.1 x0 4)).1 x0 4)))) x0 4 (((dc_wi (dc_wi m x0 6 (m.1 x0 4)) x0 7 ((dc_wi m x0 6 (m.1 x0 4)).1 (x0 + 1) (Int32.toNatClampNeg ((dc_wi m x0 6 (m.1 x0 4)).1 x0 4)))).1 x0 4) + (1 : Int32))) x0 5 (3 : Int32)) [] rfl (fun _ => rfl) rfl ?_
              refine dg_s (pc' := 263) [] rfl (fun _ => rfl) rfl ?_
              exact dw_r (some (.inl (none, (dc_wi (dc_wi (dc_wi (dc_wi m x0 6 (m.1 x0 4)) x0 7 ((dc_wi m x0 6 (m.1 x0 4)).1 (x0 + 1) (Int32.toNatClampNeg ((dc_wi m x0 6 (m.1 x0 4)).1 x0 4)))) x0 4 (((dc_wi (dc_wi m x0 6 (m.1 x0 4)) x0 7 ((dc_wi m x0 6 (m.1 x0 4)).1 (x0 + 1) (Int32.toNatClampNeg ((dc_wi m x0 6 (m.1 x0 4)).1 x0 4)))).1 x0 4) + (1 : Int32))) x0 5 (3 : Int32))))) rfl (fun _ => rfl) (kR _)
            · refine dw_g rfl ?_
              refine dg_s (pc' := 229) [.ref x0] rfl (fun _ => rfl) rfl ?_
              refine dg_s (pc' := 232) [.int ((dc_wi (dc_wi (dc_wi m x0 6 (m.1 x0 4)) x0 7 ((dc_wi m x0 6 (m.1 x0 4)).1 (x0 + 1) (Int32.toNatClampNeg ((dc_wi m x0 6 (m.1 x0 4)).1 x0 4)))) x0 4 (((dc_wi (dc_wi m x0 6 (m.1 x0 4)) x0 7 ((dc_wi m x0 6 (m.1 x0 4)).1 (x0 + 1) (Int32.toNatClampNeg ((dc_wi m x0 6 (m.1 x0 4)).1 x0 4)))).1 x0 4) + (1 : Int32))).1 x0 7)] rfl (fun _ => rfl) rfl ?_
              refine dg_s (pc' := 234) [.int (62 : Int32), .int ((dc_wi (dc_wi (dc_wi m x0 6 (m.1 x0 4)) x0 7 ((dc_wi m x0 6 (m.1 x0 4)).1 (x0 + 1) (Int32.toNatClampNeg ((dc_wi m x0 6 (m.1 x0 4)).1 x0 4)))) x0 4 (((dc_wi (dc_wi m x0 6 (m.1 x0 4)) x0 7 ((dc_wi m x0 6 (m.1 x0 4)).1 (x0 + 1) (Int32.toNatClampNeg ((dc_wi m x0 6 (m.1 x0 4)).1 x0 4)))).1 x0 4) + (1 : Int32))).1 x0 7)] rfl (fun _ => rfl) rfl ?_
              refine dw_if (fun t => Φ t) ((Int32.toInt ((dc_wi (dc_wi (dc_wi m x0 6 (m.1 x0 4)) x0 7 ((dc_wi m x0 6 (m.1 x0 4)).1 (x0 + 1) (Int32.toNatClampNeg ((dc_wi m x0 6 (m.1 x0 4)).1 x0 4)))) x0 4 (((dc_wi (dc_wi m x0 6 (m.1 x0 4)) x0 7 ((dc_wi m x0 6 (m.1 x0 4)).1 (x0 + 1) (Int32.toNatClampNeg ((dc_wi m x0 6 (m.1 x0 4)).1 x0 4)))).1 x0 4) + (1 : Int32))).1 x0 7)) = 62) [] 246 237 rfl (fun _ => rfl) (fun c6 => ?_) (fun c6 => ?_)
              · refine dw_g rfl ?_
                refine dg_s (pc' := 247) [.ref x0] rfl (fun _ => rfl) rfl ?_
                refine dg_s (pc' := 248) [.int (3 : Int32), .ref x0] rfl (fun _ => rfl) rfl ?_
                refine dg_m (pc' := 251) (dc_wi (dc_wi (dc_wi (dc_wi m x0 6 (m.1 x0 4)) x0 7 ((dc_wi m x0 6 (m.1 x0 4)).1 (x0 + 1) (Int32.toNatClampNeg ((dc_wi m x0 6 (m.1 x0 4)).1 x0 4)))) x0 4 (((dc_wi (dc_wi m x0 6 (m.1 x0 4)) x0 7 ((dc_wi m x0 6 (m.1 x0 4)).1 (x0 + 1) (Int32.toNatClampNeg ((dc_wi m x0 6 (m.1 x0 4)).1 x0 4)))).1 x0 4) + (1 : Int32))) x0 5 (3 : Int32)) [] rfl (fun _ => rfl) rfl ?_
                refine dg_s (pc' := 263) [] rfl (fun _ => rfl) rfl ?_
                exact dw_r (some (.inl (none, (dc_wi (dc_wi (dc_wi (dc_wi m x0 6 (m.1 x0 4)) x0 7 ((dc_wi m x0 6 (m.1 x0 4)).1 (x0 + 1) (Int32.toNatClampNeg ((dc_wi m x0 6 (m.1 x0 4)).1 x0 4)))) x0 4 (((dc_wi (dc_wi m x0 6 (m.1 x0 4)) x0 7 ((dc_wi m x0 6 (m.1 x0 4)).1 (x0 + 1) (Int32.toNatClampNeg ((dc_wi m x0 6 (m.1 x0 4)).1 x0 4)))).1 x0 4) + (1 : Int32))) x0 5 (3 : Int32))))) rfl (fun _ => rfl) (kR _)
              · refine dw_g rfl ?_
                refine dg_s (pc' := 238) [.ref x0] rfl (fun _ => rfl) rfl ?_
                refine dg_s (pc' := 241) [.int ((dc_wi (dc_wi (dc_wi m x0 6 (m.1 x0 4)) x0 7 ((dc_wi m x0 6 (m.1 x0 4)).1 (x0 + 1) (Int32.toNatClampNeg ((dc_wi m x0 6 (m.1 x0 4)).1 x0 4)))) x0 4 (((dc_wi (dc_wi m x0 6 (m.1 x0 4)) x0 7 ((dc_wi m x0 6 (m.1 x0 4)).1 (x0 + 1) (Int32.toNatClampNeg ((dc_wi m x0 6 (m.1 x0 4)).1 x0 4)))).1 x0 4) + (1 : Int32))).1 x0 7)] rfl (fun _ => rfl) rfl ?_
                refine dg_s (pc' := 243) [.int (59 : Int32), .int ((dc_wi (dc_wi (dc_wi m x0 6 (m.1 x0 4)) x0 7 ((dc_wi m x0 6 (m.1 x0 4)).1 (x0 + 1) (Int32.toNatClampNeg ((dc_wi m x0 6 (m.1 x0 4)).1 x0 4)))) x0 4 (((dc_wi (dc_wi m x0 6 (m.1 x0 4)) x0 7 ((dc_wi m x0 6 (m.1 x0 4)).1 (x0 + 1) (Int32.toNatClampNeg ((dc_wi m x0 6 (m.1 x0 4)).1 x0 4)))).1 x0 4) + (1 : Int32))).1 x0 7)] rfl (fun _ => rfl) rfl ?_
                refine dw_if (fun t => Φ t) (¬ (Int32.toInt ((dc_wi (dc_wi (dc_wi m x0 6 (m.1 x0 4)) x0 7 ((dc_wi m x0 6 (m.1 x0 4)).1 (x0 + 1) (Int32.toNatClampNeg ((dc_wi m x0 6 (m.1 x0 4)).1 x0 4)))) x0 4 (((dc_wi (dc_wi m x0 6 (m.1 x0 4)) x0 7 ((dc_wi m x0 6 (m.1 x0 4)).1 (x0 + 1) (Int32.toNatClampNeg ((dc_wi m x0 6 (m.1 x0 4)).1 x0 4)))).1 x0 4) + (1 : Int32))).1 x0 7)) = 59) [] 254 246 rfl (fun _ => rfl) (fun c7 => ?_) (fun c7 => ?_)
                · refine dw_g rfl ?_
                  refine dg_s (pc' := 255) [.ref x0] rfl (fun _ => rfl) rfl ?_
                  refine dg_s (pc' := 256) [.int (1 : Int32), .ref x0] rfl (fun _ => rfl) rfl ?_
                  refine dg_s (pc' := 257) [.ref x0, .int (1 : Int32), .ref x0] rfl (fun _ => rfl) rfl ?_
                  refine dg_s (pc' := 260) [.int ((dc_wi (dc_wi (dc_wi m x0 6 (m.1 x0 4)) x0 7 ((dc_wi m x0 6 (m.1 x0 4)).1 (x0 + 1) (Int32.toNatClampNeg ((dc_wi m x0 6 (m.1 x0 4)).1 x0 4)))) x0 4 (((dc_wi (dc_wi m x0 6 (m.1 x0 4)) x0 7 ((dc_wi m x0 6 (m.1 x0 4)).1 (x0 + 1) (Int32.toNatClampNeg ((dc_wi m x0 6 (m.1 x0 4)).1 x0 4)))).1 x0 4) + (1 : Int32))).1 x0 6), .int (1 : Int32), .ref x0] rfl (fun _ => rfl) rfl ?_
                  refine dw_l (fun t => Φ t) (pc' := 263) (fun q1 => []) (fun q1 => q1) rfl (fun _ => rfl) (fun q1 => ?_)
                  refine dw_g rfl ?_
                  exact dw_r (some (.inl (none, q1))) rfl (fun _ => rfl) (kR _)
                · refine dw_g rfl ?_
                  refine dg_s (pc' := 247) [.ref x0] rfl (fun _ => rfl) rfl ?_
                  refine dg_s (pc' := 248) [.int (3 : Int32), .ref x0] rfl (fun _ => rfl) rfl ?_
                  refine dg_m (pc' := 251) (dc_wi (dc_wi (dc_wi (dc_wi m x0 6 (m.1 x0 4)) x0 7 ((dc_wi m x0 6 (m.1 x0 4)).1 (x0 + 1) (Int32.toNatClampNeg ((dc_wi m x0 6 (m.1 x0 4)).1 x0 4)))) x0 4 (((dc_wi (dc_wi m x0 6 (m.1 x0 4)) x0 7 ((dc_wi m x0 6 (m.1 x0 4)).1 (x0 + 1) (Int32.toNatClampNeg ((dc_wi m x0 6 (m.1 x0 4)).1 x0 4)))).1 x0 4) + (1 : Int32))) x0 5 (3 : Int32)) [] rfl (fun _ => rfl) rfl ?_
                  refine dg_s (pc' := 263) [] rfl (fun _ => rfl) rfl ?_
                  exact dw_r (some (.inl (none, (dc_wi (dc_wi (dc_wi (dc_wi m x0 6 (m.1 x0 4)) x0 7 ((dc_wi m x0 6 (m.1 x0 4)).1 (x0 + 1) (Int32.toNatClampNeg ((dc_wi m x0 6 (m.1 x0 4)).1 x0 4)))) x0 4 (((dc_wi (dc_wi m x0 6 (m.1 x0 4)) x0 7 ((dc_wi m x0 6 (m.1 x0 4)).1 (x0 + 1) (Int32.toNatClampNeg ((dc_wi m x0 6 (m.1 x0 4)).1 x0 4)))).1 x0 4) + (1 : Int32))) x0 5 (3 : Int32))))) rfl (fun _ => rfl) (kR _)
      · refine dw_g rfl ?_
        refine dg_s (pc' := 159) [.ref x0] rfl (fun _ => rfl) rfl ?_
        refine dg_s (pc' := 160) [.int (2 : Int32), .ref x0] rfl (fun _ => rfl) rfl ?_
        refine dg_m (pc' := 163) (dc_wi (dc_wi (dc_wi (dc_wi m x0 6 (m.1 x0 4)) x0 7 ((dc_wi m x0 6 (m.1 x0 4)).1 (x0 + 1) (Int32.toNatClampNeg ((dc_wi m x0 6 (m.1 x0 4)).1 x0 4)))) x0 4 (((dc_wi (dc_wi m x0 6 (m.1 x0 4)) x0 7 ((dc_wi m x0 6 (m.1 x0 4)).1 (x0 + 1) (Int32.toNatClampNeg ((dc_wi m x0 6 (m.1 x0 4)).1 x0 4)))).1 x0 4) + (1 : Int32))) x0 5 (2 : Int32)) [] rfl (fun _ => rfl) rfl ?_
        refine dg_s (pc' := 164) [.ref x0] rfl (fun _ => rfl) rfl ?_
        refine dg_s (pc' := 167) [.int ((dc_wi (dc_wi (dc_wi (dc_wi m x0 6 (m.1 x0 4)) x0 7 ((dc_wi m x0 6 (m.1 x0 4)).1 (x0 + 1) (Int32.toNatClampNeg ((dc_wi m x0 6 (m.1 x0 4)).1 x0 4)))) x0 4 (((dc_wi (dc_wi m x0 6 (m.1 x0 4)) x0 7 ((dc_wi m x0 6 (m.1 x0 4)).1 (x0 + 1) (Int32.toNatClampNeg ((dc_wi m x0 6 (m.1 x0 4)).1 x0 4)))).1 x0 4) + (1 : Int32))) x0 5 (2 : Int32)).1 x0 4)] rfl (fun _ => rfl) rfl ?_
        refine dg_s (pc' := 168) [.ref x0, .int ((dc_wi (dc_wi (dc_wi (dc_wi m x0 6 (m.1 x0 4)) x0 7 ((dc_wi m x0 6 (m.1 x0 4)).1 (x0 + 1) (Int32.toNatClampNeg ((dc_wi m x0 6 (m.1 x0 4)).1 x0 4)))) x0 4 (((dc_wi (dc_wi m x0 6 (m.1 x0 4)) x0 7 ((dc_wi m x0 6 (m.1 x0 4)).1 (x0 + 1) (Int32.toNatClampNeg ((dc_wi m x0 6 (m.1 x0 4)).1 x0 4)))).1 x0 4) + (1 : Int32))) x0 5 (2 : Int32)).1 x0 4)] rfl (fun _ => rfl) rfl ?_
        refine dg_s (pc' := 171) [.int ((dc_wi (dc_wi (dc_wi (dc_wi m x0 6 (m.1 x0 4)) x0 7 ((dc_wi m x0 6 (m.1 x0 4)).1 (x0 + 1) (Int32.toNatClampNeg ((dc_wi m x0 6 (m.1 x0 4)).1 x0 4)))) x0 4 (((dc_wi (dc_wi m x0 6 (m.1 x0 4)) x0 7 ((dc_wi m x0 6 (m.1 x0 4)).1 (x0 + 1) (Int32.toNatClampNeg ((dc_wi m x0 6 (m.1 x0 4)).1 x0 4)))).1 x0 4) + (1 : Int32))) x0 5 (2 : Int32)).1 x0 1), .int ((dc_wi (dc_wi (dc_wi (dc_wi m x0 6 (m.1 x0 4)) x0 7 ((dc_wi m x0 6 (m.1 x0 4)).1 (x0 + 1) (Int32.toNatClampNeg ((dc_wi m x0 6 (m.1 x0 4)).1 x0 4)))) x0 4 (((dc_wi (dc_wi m x0 6 (m.1 x0 4)) x0 7 ((dc_wi m x0 6 (m.1 x0 4)).1 (x0 + 1) (Int32.toNatClampNeg ((dc_wi m x0 6 (m.1 x0 4)).1 x0 4)))).1 x0 4) + (1 : Int32))) x0 5 (2 : Int32)).1 x0 4)] rfl (fun _ => rfl) rfl ?_
        refine dw_if (fun t => Φ t) ((Int32.toInt ((dc_wi (dc_wi (dc_wi (dc_wi m x0 6 (m.1 x0 4)) x0 7 ((dc_wi m x0 6 (m.1 x0 4)).1 (x0 + 1) (Int32.toNatClampNeg ((dc_wi m x0 6 (m.1 x0 4)).1 x0 4)))) x0 4 (((dc_wi (dc_wi m x0 6 (m.1 x0 4)) x0 7 ((dc_wi m x0 6 (m.1 x0 4)).1 (x0 + 1) (Int32.toNatClampNeg ((dc_wi m x0 6 (m.1 x0 4)).1 x0 4)))).1 x0 4) + (1 : Int32))) x0 5 (2 : Int32)).1 x0 1)) ≤ (Int32.toInt ((dc_wi (dc_wi (dc_wi (dc_wi m x0 6 (m.1 x0 4)) x0 7 ((dc_wi m x0 6 (m.1 x0 4)).1 (x0 + 1) (Int32.toNatClampNeg ((dc_wi m x0 6 (m.1 x0 4)).1 x0 4)))) x0 4 (((dc_wi (dc_wi m x0 6 (m.1 x0 4)) x0 7 ((dc_wi m x0 6 (m.1 x0 4)).1 (x0 + 1) (Int32.toNatClampNeg ((dc_wi m x0 6 (m.1 x0 4)).1 x0 4)))).1 x0 4) + (1 : Int32))) x0 5 (2 : Int32)).1 x0 4))) [] 263 174 rfl (fun _ => rfl) (fun c3 => ?_) (fun c3 => ?_)
        · refine dw_g rfl ?_
          exact dw_r (some (.inl (none, (dc_wi (dc_wi (dc_wi (dc_wi m x0 6 (m.1 x0 4)) x0 7 ((dc_wi m x0 6 (m.1 x0 4)).1 (x0 + 1) (Int32.toNatClampNeg ((dc_wi m x0 6 (m.1 x0 4)).1 x0 4)))) x0 4 (((dc_wi (dc_wi m x0 6 (m.1 x0 4)) x0 7 ((dc_wi m x0 6 (m.1 x0 4)).1 (x0 + 1) (Int32.toNatClampNeg ((dc_wi m x0 6 (m.1 x0 4)).1 x0 4)))).1 x0 4) + (1 : Int32))) x0 5 (2 : Int32))))) rfl (fun _ => rfl) (kR _)
        · refine dw_g rfl ?_
          refine dg_s (pc' := 175) [.ref x0] rfl (fun _ => rfl) rfl ?_
          refine dg_s (pc' := 178) [.ref (x0 + 1)] rfl (fun _ => rfl) rfl ?_
          refine dg_s (pc' := 179) [.ref x0, .ref (x0 + 1)] rfl (fun _ => rfl) rfl ?_
          refine dg_s (pc' := 182) [.int ((dc_wi (dc_wi (dc_wi (dc_wi m x0 6 (m.1 x0 4)) x0 7 ((dc_wi m x0 6 (m.1 x0 4)).1 (x0 + 1) (Int32.toNatClampNeg ((dc_wi m x0 6 (m.1 x0 4)).1 x0 4)))) x0 4 (((dc_wi (dc_wi m x0 6 (m.1 x0 4)) x0 7 ((dc_wi m x0 6 (m.1 x0 4)).1 (x0 + 1) (Int32.toNatClampNeg ((dc_wi m x0 6 (m.1 x0 4)).1 x0 4)))).1 x0 4) + (1 : Int32))) x0 5 (2 : Int32)).1 x0 4), .ref (x0 + 1)] rfl (fun _ => rfl) rfl ?_
          refine dg_s (pc' := 183) [.int ((dc_wi (dc_wi (dc_wi (dc_wi m x0 6 (m.1 x0 4)) x0 7 ((dc_wi m x0 6 (m.1 x0 4)).1 (x0 + 1) (Int32.toNatClampNeg ((dc_wi m x0 6 (m.1 x0 4)).1 x0 4)))) x0 4 (((dc_wi (dc_wi m x0 6 (m.1 x0 4)) x0 7 ((dc_wi m x0 6 (m.1 x0 4)).1 (x0 + 1) (Int32.toNatClampNeg ((dc_wi m x0 6 (m.1 x0 4)).1 x0 4)))).1 x0 4) + (1 : Int32))) x0 5 (2 : Int32)).1 (x0 + 1) (Int32.toNatClampNeg ((dc_wi (dc_wi (dc_wi (dc_wi m x0 6 (m.1 x0 4)) x0 7 ((dc_wi m x0 6 (m.1 x0 4)).1 (x0 + 1) (Int32.toNatClampNeg ((dc_wi m x0 6 (m.1 x0 4)).1 x0 4)))) x0 4 (((dc_wi (dc_wi m x0 6 (m.1 x0 4)) x0 7 ((dc_wi m x0 6 (m.1 x0 4)).1 (x0 + 1) (Int32.toNatClampNeg ((dc_wi m x0 6 (m.1 x0 4)).1 x0 4)))).1 x0 4) + (1 : Int32))) x0 5 (2 : Int32)).1 x0 4)))] rfl (fun _ => rfl) rfl ?_
          refine dg_s (pc' := 186) [.int (d_X4_isFigure ((dc_wi (dc_wi (dc_wi (dc_wi m x0 6 (m.1 x0 4)) x0 7 ((dc_wi m x0 6 (m.1 x0 4)).1 (x0 + 1) (Int32.toNatClampNeg ((dc_wi m x0 6 (m.1 x0 4)).1 x0 4)))) x0 4 (((dc_wi (dc_wi m x0 6 (m.1 x0 4)) x0 7 ((dc_wi m x0 6 (m.1 x0 4)).1 (x0 + 1) (Int32.toNatClampNeg ((dc_wi m x0 6 (m.1 x0 4)).1 x0 4)))).1 x0 4) + (1 : Int32))) x0 5 (2 : Int32)).1 (x0 + 1) (Int32.toNatClampNeg ((dc_wi (dc_wi (dc_wi (dc_wi m x0 6 (m.1 x0 4)) x0 7 ((dc_wi m x0 6 (m.1 x0 4)).1 (x0 + 1) (Int32.toNatClampNeg ((dc_wi m x0 6 (m.1 x0 4)).1 x0 4)))) x0 4 (((dc_wi (dc_wi m x0 6 (m.1 x0 4)) x0 7 ((dc_wi m x0 6 (m.1 x0 4)).1 (x0 + 1) (Int32.toNatClampNeg ((dc_wi m x0 6 (m.1 x0 4)).1 x0 4)))).1 x0 4) + (1 : Int32))) x0 5 (2 : Int32)).1 x0 4))) (dc_wi (dc_wi (dc_wi (dc_wi m x0 6 (m.1 x0 4)) x0 7 ((dc_wi m x0 6 (m.1 x0 4)).1 (x0 + 1) (Int32.toNatClampNeg ((dc_wi m x0 6 (m.1 x0 4)).1 x0 4)))) x0 4 (((dc_wi (dc_wi m x0 6 (m.1 x0 4)) x0 7 ((dc_wi m x0 6 (m.1 x0 4)).1 (x0 + 1) (Int32.toNatClampNeg ((dc_wi m x0 6 (m.1 x0 4)).1 x0 4)))).1 x0 4) + (1 : Int32))) x0 5 (2 : Int32)))] rfl (fun _ => rfl) rfl ?_
          refine dw_if (fun t => Φ t) ((Int32.toInt (d_X4_isFigure ((dc_wi (dc_wi (dc_wi (dc_wi m x0 6 (m.1 x0 4)) x0 7 ((dc_wi m x0 6 (m.1 x0 4)).1 (x0 + 1) (Int32.toNatClampNeg ((dc_wi m x0 6 (m.1 x0 4)).1 x0 4)))) x0 4 (((dc_wi (dc_wi m x0 6 (m.1 x0 4)) x0 7 ((dc_wi m x0 6 (m.1 x0 4)).1 (x0 + 1) (Int32.toNatClampNeg ((dc_wi m x0 6 (m.1 x0 4)).1 x0 4)))).1 x0 4) + (1 : Int32))) x0 5 (2 : Int32)).1 (x0 + 1) (Int32.toNatClampNeg ((dc_wi (dc_wi (dc_wi (dc_wi m x0 6 (m.1 x0 4)) x0 7 ((dc_wi m x0 6 (m.1 x0 4)).1 (x0 + 1) (Int32.toNatClampNeg ((dc_wi m x0 6 (m.1 x0 4)).1 x0 4)))) x0 4 (((dc_wi (dc_wi m x0 6 (m.1 x0 4)) x0 7 ((dc_wi m x0 6 (m.1 x0 4)).1 (x0 + 1) (Int32.toNatClampNeg ((dc_wi m x0 6 (m.1 x0 4)).1 x0 4)))).1 x0 4) + (1 : Int32))) x0 5 (2 : Int32)).1 x0 4))) (dc_wi (dc_wi (dc_wi (dc_wi m x0 6 (m.1 x0 4)) x0 7 ((dc_wi m x0 6 (m.1 x0 4)).1 (x0 + 1) (Int32.toNatClampNeg ((dc_wi m x0 6 (m.1 x0 4)).1 x0 4)))) x0 4 (((dc_wi (dc_wi m x0 6 (m.1 x0 4)) x0 7 ((dc_wi m x0 6 (m.1 x0 4)).1 (x0 + 1) (Int32.toNatClampNeg ((dc_wi m x0 6 (m.1 x0 4)).1 x0 4)))).1 x0 4) + (1 : Int32))) x0 5 (2 : Int32)))) = 0) [] 263 189 rfl (fun _ => rfl) (fun c4 => ?_) (fun c4 => ?_)
          · refine dw_g rfl ?_
            exact dw_r (some (.inl (none, (dc_wi (dc_wi (dc_wi (dc_wi m x0 6 (m.1 x0 4)) x0 7 ((dc_wi m x0 6 (m.1 x0 4)).1 (x0 + 1) (Int32.toNatClampNeg ((dc_wi m x0 6 (m.1 x0 4)).1 x0 4)))) x0 4 (((dc_wi (dc_wi m x0 6 (m.1 x0 4)) x0 7 ((dc_wi m x0 6 (m.1 x0 4)).1 (x0 + 1) (Int32.toNatClampNeg ((dc_wi m x0 6 (m.1 x0 4)).1 x0 4)))).1 x0 4) + (1 : Int32))) x0 5 (2 : Int32))))) rfl (fun _ => rfl) (kR _)
          · refine dw_g rfl ?_
            refine dg_s (pc' := 190) [.ref x0] rfl (fun _ => rfl) rfl ?_
            refine dg_s (pc' := 191) [.int (1 : Int32), .ref x0] rfl (fun _ => rfl) rfl ?_
            refine dg_s (pc' := 192) [.ref x0, .int (1 : Int32), .ref x0] rfl (fun _ => rfl) rfl ?_
            refine dg_s (pc' := 195) [.int ((dc_wi (dc_wi (dc_wi (dc_wi m x0 6 (m.1 x0 4)) x0 7 ((dc_wi m x0 6 (m.1 x0 4)).1 (x0 + 1) (Int32.toNatClampNeg ((dc_wi m x0 6 (m.1 x0 4)).1 x0 4)))) x0 4 (((dc_wi (dc_wi m x0 6 (m.1 x0 4)) x0 7 ((dc_wi m x0 6 (m.1 x0 4)).1 (x0 + 1) (Int32.toNatClampNeg ((dc_wi m x0 6 (m.1 x0 4)).1 x0 4)))).1 x0 4) + (1 : Int32))) x0 5 (2 : Int32)).1 x0 6), .int (1 : Int32), .ref x0] rfl (fun _ => rfl) rfl ?_
            refine dw_l (fun t => Φ t) (pc' := 198) (fun q2 => []) (fun q2 => q2) rfl (fun _ => rfl) (fun q2 => ?_)
            refine dw_g rfl ?_
            refine dg_s (pc' := 263) [] rfl (fun _ => rfl) rfl ?_
            exact dw_r (some (.inl (none, q2))) rfl (fun _ => rfl) (kR _)
    · refine dw_g rfl ?_
      refine dg_s (pc' := 105) [.ref x0] rfl (fun _ => rfl) rfl ?_
      refine dg_s (pc' := 106) [.int (1 : Int32), .ref x0] rfl (fun _ => rfl) rfl ?_
      refine dw_m (pc' := 109) (dc_wi (dc_wi (dc_wi (dc_wi m x0 6 (m.1 x0 4)) x0 7 ((dc_wi m x0 6 (m.1 x0 4)).1 (x0 + 1) (Int32.toNatClampNeg ((dc_wi m x0 6 (m.1 x0 4)).1 x0 4)))) x0 4 (((dc_wi (dc_wi m x0 6 (m.1 x0 4)) x0 7 ((dc_wi m x0 6 (m.1 x0 4)).1 (x0 + 1) (Int32.toNatClampNeg ((dc_wi m x0 6 (m.1 x0 4)).1 x0 4)))).1 x0 4) + (1 : Int32))) x0 5 (1 : Int32)) [] rfl (fun _ => rfl) ?_
      exact dw_j rfl (fun lv1 hv => k_X4_take_l109 (Φ := (fun t => Φ t)) x0 (fun _b => kR _b) N   (dc_wi (dc_wi (dc_wi (dc_wi m x0 6 (m.1 x0 4)) x0 7 ((dc_wi m x0 6 (m.1 x0 4)).1 (x0 + 1) (Int32.toNatClampNeg ((dc_wi m x0 6 (m.1 x0 4)).1 x0 4)))) x0 4 (((dc_wi (dc_wi m x0 6 (m.1 x0 4)) x0 7 ((dc_wi m x0 6 (m.1 x0 4)).1 (x0 + 1) (Int32.toNatClampNeg ((dc_wi m x0 6 (m.1 x0 4)).1 x0 4)))).1 x0 4) + (1 : Int32))) x0 5 (1 : Int32)) lv1 (hv.1 _ rfl))
  · refine dw_g rfl ?_
    refine dg_s (pc' := 66) [.ref x0] rfl (fun _ => rfl) rfl ?_
    refine dg_s (pc' := 67) [.int (0 : Int32), .ref x0] rfl (fun _ => rfl) rfl ?_
    refine dg_m (pc' := 70) (dc_wi (dc_wi m x0 6 (m.1 x0 4)) x0 5 (0 : Int32)) [] rfl (fun _ => rfl) rfl ?_
    exact dw_r (some (.inl (none, (dc_wi (dc_wi m x0 6 (m.1 x0 4)) x0 5 (0 : Int32))))) rfl (fun _ => rfl) (kR _)
noncomputable def d_X4_take_l8b (x0 : Nat)  (m : dc_M) : Option (dc_M ⊕ dc_M) :=
  (if (Int32.toInt (m.1 x0 1)) ≤ (Int32.toInt (m.1 x0 4)) then ((d_X4_take_b46 x0 m).map (fun z => Sum.inr (z))) else (if ¬ (Int32.toInt (m.1 (x0 + 1) (Int32.toNatClampNeg (m.1 x0 4)))) = 32 then ((d_X4_take_b46 x0 m).map (fun z => Sum.inr (z))) else some (Sum.inl (dc_wi m x0 4 ((m.1 x0 4) + (1 : Int32))))))
noncomputable def d_X4_take_l8s (x0 : Nat) : dc_M → Option (dc_M ⊕ dc_M) := fun s => d_X4_take_l8b x0 s
noncomputable def d_X4_take_l8 (x0 : Nat)  (m : dc_M) : Option dc_M := dc_lp (d_X4_take_l8s x0) m
set_option maxHeartbeats 8000000 in
theorem k_X4_take_l8 {u : Nat} {Φ : (Option dc_M) → Option Value → dc_M → Prop} (x0 : Nat) (kR : ∀  (m : dc_M), Φ (some (m)) (none) m) : ∀ (N : Nat), ∀  (m : dc_M) (lv : ab_L), ab_lk lv 0 = some (.ref x0) → dc_pv u N ab_M_X4_take 8 lv [] m (Φ (d_X4_take_l8 x0  m)) := by
  intro N
  induction N with
  | zero => intros; exact dc_pv_zero
  | succ N ih =>
    intro m lv f0
    refine dc_ok (C := C_X4_take) (S := S_X4_take) CO_X4_take 400 8 [(0, .ref x0)] lv [] m (dc_sub_cons f0 (dc_sub_nil)) ?_
    unfold d_X4_take_l8
    rw [dc_lp_eq]
    show (fun t x => dc_lf u N ab_M_X4_take (Φ (Option.bind t (dc_bk (d_X4_take_l8s x0)))) x) (d_X4_take_l8b x0  m) _
    dsimp only
    unfold d_X4_take_l8b
    refine dg_s (pc' := 9) [.ref x0] rfl (fun _ => rfl) rfl ?_
    refine dg_s (pc' := 12) [.int (m.1 x0 4)] rfl (fun _ => rfl) rfl ?_
    refine dg_s (pc' := 13) [.ref x0, .int (m.1 x0 4)] rfl (fun _ => rfl) rfl ?_
    refine dg_s (pc' := 16) [.int (m.1 x0 1), .int (m.1 x0 4)] rfl (fun _ => rfl) rfl ?_
    refine dw_if (fun t => Φ (Option.bind t (dc_bk (d_X4_take_l8s x0)))) ((Int32.toInt (m.1 x0 1)) ≤ (Int32.toInt (m.1 x0 4))) [] 46 19 rfl (fun _ => rfl) (fun c0 => ?_) (fun c0 => ?_)
    · exact dw_j rfl (fun lv1 hv => k_X4_take_b46 (Φ := (fun t => Φ (Option.bind (t.map (fun z => Sum.inr (z))) (dc_bk (d_X4_take_l8s x0))))) x0 m (fun _b => kR _b)  (hv.1 _ rfl))
    · refine dw_g rfl ?_
      refine dg_s (pc' := 20) [.ref x0] rfl (fun _ => rfl) rfl ?_
      refine dg_s (pc' := 23) [.ref (x0 + 1)] rfl (fun _ => rfl) rfl ?_
      refine dg_s (pc' := 24) [.ref x0, .ref (x0 + 1)] rfl (fun _ => rfl) rfl ?_
      refine dg_s (pc' := 27) [.int (m.1 x0 4), .ref (x0 + 1)] rfl (fun _ => rfl) rfl ?_
      refine dg_s (pc' := 28) [.int (m.1 (x0 + 1) (Int32.toNatClampNeg (m.1 x0 4)))] rfl (fun _ => rfl) rfl ?_
      refine dg_s (pc' := 30) [.int (32 : Int32), .int (m.1 (x0 + 1) (Int32.toNatClampNeg (m.1 x0 4)))] rfl (fun _ => rfl) rfl ?_
      refine dw_if (fun t => Φ (Option.bind t (dc_bk (d_X4_take_l8s x0)))) (¬ (Int32.toInt (m.1 (x0 + 1) (Int32.toNatClampNeg (m.1 x0 4)))) = 32) [] 46 33 rfl (fun _ => rfl) (fun c1 => ?_) (fun c1 => ?_)
      · exact dw_j rfl (fun lv1 hv => k_X4_take_b46 (Φ := (fun t => Φ (Option.bind (t.map (fun z => Sum.inr (z))) (dc_bk (d_X4_take_l8s x0))))) x0 m (fun _b => kR _b)  (hv.1 _ rfl))
      · refine dw_g rfl ?_
        refine dg_s (pc' := 34) [.ref x0] rfl (fun _ => rfl) rfl ?_
        refine dg_s (pc' := 35) [.ref x0, .ref x0] rfl (fun _ => rfl) rfl ?_
        refine dg_s (pc' := 38) [.int (m.1 x0 4), .ref x0] rfl (fun _ => rfl) rfl ?_
        refine dg_s (pc' := 39) [.int (1 : Int32), .int (m.1 x0 4), .ref x0] rfl (fun _ => rfl) rfl ?_
        refine dg_s (pc' := 40) [.int ((m.1 x0 4) + (1 : Int32)), .ref x0] rfl (fun _ => rfl) rfl ?_
        refine dg_m (pc' := 43) (dc_wi m x0 4 ((m.1 x0 4) + (1 : Int32))) [] rfl (fun _ => rfl) rfl ?_
        refine dw_s (pc' := 8) [] rfl (fun _ => rfl) ?_
        exact dw_j rfl (fun lv1 hv => ih (dc_wi m x0 4 ((m.1 x0 4) + (1 : Int32))) lv1 (hv.1 _ rfl))
noncomputable def d_X4_take (x0 : Nat) (m : dc_M) : Option dc_M :=
  (if (Int32.toInt (m.1 x0 2)) = 0 then (d_X4_take_l8 x0 m) else some (m))
set_option maxHeartbeats 8000000 in
theorem k_X4_take {u : Nat} {N : Nat} {Φ : (Option dc_M) → Option Value → dc_M → Prop} (x0 : Nat) (m : dc_M) (kR : ∀  (m : dc_M), Φ (some (m)) (none) m)  {lv : ab_L} (f0 : ab_lk lv 0 = some (.ref x0)) : dc_pv u N ab_M_X4_take 0 lv [] m (Φ (d_X4_take x0 m)) := by
  refine dc_pv.mono (dc_ok (C := C_X4_take) (S := S_X4_take) CO_X4_take 400 0 [(0, .ref x0)] lv [] m (dc_sub_cons f0 (dc_sub_nil)) ?_) (Nat.le_succ N)
  unfold d_X4_take
  refine dg_s (pc' := 1) [.ref x0] rfl (fun _ => rfl) rfl ?_
  refine dg_s (pc' := 4) [.int (m.1 x0 2)] rfl (fun _ => rfl) rfl ?_
  refine dw_if (fun t => Φ t) ((Int32.toInt (m.1 x0 2)) = 0) [] 8 7 rfl (fun _ => rfl) (fun c0 => ?_) (fun c0 => ?_)
  · exact dw_j rfl (fun lv1 hv => k_X4_take_l8 (Φ := (fun t => Φ t)) x0 (fun _b => kR _b) N   m lv1 (hv.1 _ rfl))
  · refine dw_g rfl ?_
    exact dw_r (some (.inl (none, m))) rfl (fun _ => rfl) (kR _)
noncomputable def H_X4_take : dc_H := fun As m k => match As with
  | [.ref x0] => (d_X4_take x0 m).bind (fun q => k (none) q)
  | _ => dc_kz
theorem H_X4_take_ok {u : Nat} : dc_cok u 55 H_X4_take := fun M' hG N As m k P hz hP => by
  obtain rfl : ab_M_X4_take = M' := Option.some.inj hG
  unfold H_X4_take at hP
  split at hP
  · rename_i x0
    exact dc_pv.imp (k_X4_take (Φ := fun (t : Option dc_M) r m' => P (t.bind (fun q => k (none) q)) → P (k r m')) x0 m (fun _ h => h) rfl) (fun r m' h => h hP)
  · exact absurd hP hz
noncomputable def C_X4_readIndex : List (Nat × dc_H) := [(56, H_X4_refuse), (55, H_X4_take)]
theorem CO_X4_readIndex {u : Nat} : dc_CO u C_X4_readIndex := dc_CO_cons H_X4_refuse_ok (dc_CO_cons H_X4_take_ok (dc_CO_nil))
def S_X4_readIndex : List (Nat × List Nat) := []
noncomputable def d_X4_readIndex (x0 : Nat) (m : dc_M) : Option (Int32 × dc_M) :=
  ((d_X4_take x0 m).bind (fun q1 => (if (Int32.toInt (q1.1 x0 5)) = 2 then ((d_X4_take x0 q1).bind (fun q2 => some ((((q1.1 x0 7) - (48 : Int32)), q2)))) else (dc_let (d_X4_refuse x0 (2 : Int32) (q1.1 x0 6) q1) (fun q3 => some (((0 : Int32), q3)))))))
set_option maxHeartbeats 8000000 in
theorem k_X4_readIndex {u : Nat} {N : Nat} {Φ : (Option (Int32 × dc_M)) → Option Value → dc_M → Prop} (x0 : Nat) (m : dc_M) (kR : ∀ (v : Int32) (m : dc_M), Φ (some ((v, m))) (some (.int v)) m)  {lv : ab_L} (f0 : ab_lk lv 0 = some (.ref x0)) : dc_pv u N ab_M_X4_readIndex 0 lv [] m (Φ (d_X4_readIndex x0 m)) := by
  refine dc_pv.mono (dc_ok (C := C_X4_readIndex) (S := S_X4_readIndex) CO_X4_readIndex 400 0 [(0, .ref x0)] lv [] m (dc_sub_cons f0 (dc_sub_nil)) ?_) (Nat.le_succ N)
  unfold d_X4_readIndex
  refine dg_s (pc' := 1) [.ref x0] rfl (fun _ => rfl) rfl ?_
  refine dw_b (fun t => Φ t) (pc' := 4) (fun q1 => []) (fun q1 => q1) rfl (fun _ => rfl) (fun q1 => ?_)
  refine dw_g rfl ?_
  refine dg_s (pc' := 5) [.ref x0] rfl (fun _ => rfl) rfl ?_
  refine dg_s (pc' := 8) [.int (q1.1 x0 7)] rfl (fun _ => rfl) rfl ?_
  refine dg_s (pc' := 10) [.int (48 : Int32), .int (q1.1 x0 7)] rfl (fun _ => rfl) rfl ?_
  refine dg_s (pc' := 11) [.int ((q1.1 x0 7) - (48 : Int32))] rfl (fun _ => rfl) rfl ?_
  refine dg_L (pc' := 12) [(1, .int ((q1.1 x0 7) - (48 : Int32))), (0, .ref x0)] [] rfl (fun _ => rfl) rfl ?_
  refine dg_s (pc' := 13) [.ref x0] rfl (fun _ => rfl) rfl ?_
  refine dg_s (pc' := 16) [.int (q1.1 x0 5)] rfl (fun _ => rfl) rfl ?_
  refine dg_s (pc' := 17) [.int (2 : Int32), .int (q1.1 x0 5)] rfl (fun _ => rfl) rfl ?_
  refine dw_if (fun t => Φ t) ((Int32.toInt (q1.1 x0 5)) = 2) [] 31 20 rfl (fun _ => rfl) (fun c0 => ?_) (fun c0 => ?_)
  · refine dw_g rfl ?_
    refine dg_s (pc' := 32) [.ref x0] rfl (fun _ => rfl) rfl ?_
    refine dw_b (fun t => Φ t) (pc' := 35) (fun q2 => []) (fun q2 => q2) rfl (fun _ => rfl) (fun q2 => ?_)
    refine dw_g rfl ?_
    refine dg_s (pc' := 36) [.int ((q1.1 x0 7) - (48 : Int32))] rfl (fun _ => rfl) rfl ?_
    exact dw_r (some (.inl (some (.int ((q1.1 x0 7) - (48 : Int32))), q2))) rfl (fun _ => rfl) (kR _ _)
  · refine dw_g rfl ?_
    refine dg_s (pc' := 21) [.ref x0] rfl (fun _ => rfl) rfl ?_
    refine dg_s (pc' := 22) [.int (2 : Int32), .ref x0] rfl (fun _ => rfl) rfl ?_
    refine dg_s (pc' := 23) [.ref x0, .int (2 : Int32), .ref x0] rfl (fun _ => rfl) rfl ?_
    refine dg_s (pc' := 26) [.int (q1.1 x0 6), .int (2 : Int32), .ref x0] rfl (fun _ => rfl) rfl ?_
    refine dw_l (fun t => Φ t) (pc' := 29) (fun q3 => []) (fun q3 => q3) rfl (fun _ => rfl) (fun q3 => ?_)
    refine dw_g rfl ?_
    refine dg_s (pc' := 30) [.int (0 : Int32)] rfl (fun _ => rfl) rfl ?_
    exact dw_r (some (.inl (some (.int (0 : Int32)), q3))) rfl (fun _ => rfl) (kR _ _)
noncomputable def H_X4_readIndex : dc_H := fun As m k => match As with
  | [.ref x0] => (d_X4_readIndex x0 m).bind (fun q => k (some (.int q.1)) q.2)
  | _ => dc_kz
theorem H_X4_readIndex_ok {u : Nat} : dc_cok u 52 H_X4_readIndex := fun M' hG N As m k P hz hP => by
  obtain rfl : ab_M_X4_readIndex = M' := Option.some.inj hG
  unfold H_X4_readIndex at hP
  split at hP
  · rename_i x0
    exact dc_pv.imp (k_X4_readIndex (Φ := fun (t : Option (Int32 × dc_M)) r m' => P (t.bind (fun q => k (some (.int q.1)) q.2)) → P (k r m')) x0 m (fun _ _ h => h) rfl) (fun r m' h => h hP)
  · exact absurd hP hz
noncomputable def C_X4_readEvent : List (Nat × dc_H) := [(31, H_X3_wireCalled), (57, H_X4_isLetter), (58, H_X4_isSign), (53, H_X4_numberOf), (52, H_X4_readIndex), (56, H_X4_refuse), (55, H_X4_take)]
theorem CO_X4_readEvent : dc_CO 3 C_X4_readEvent := dc_CO_cons H_X3_wireCalled_ok (dc_CO_cons H_X4_isLetter_ok (dc_CO_cons H_X4_isSign_ok (dc_CO_cons H_X4_numberOf_ok (dc_CO_cons H_X4_readIndex_ok (dc_CO_cons H_X4_refuse_ok (dc_CO_cons H_X4_take_ok (dc_CO_nil)))))))
def S_X4_readEvent : List (Nat × List Nat) := [(31, [0, 1, 2]), (91, [0, 1, 2, 3]), (105, [0, 1, 2, 3]), (128, [0, 1, 2, 3, 4]), (151, [0, 1, 2])]
noncomputable def d_X4_readEvent_b151 (x0 : Nat) (x1 : Int32) (x2 : Int32) (s0 : Int32) (m : dc_M) : Option (Int32 × dc_M) :=
  (if 0 ≤ (Int32.toInt s0) then (if (Int32.toInt ((x1 >>> (s0 &&& 31)) &&& (1 : Int32))) = 0 then some ((((1 : Int32) <<< (s0 &&& 31)), m)) else (dc_let (d_X4_refuse x0 (5 : Int32) x2 m) (fun q1 => some (((0 : Int32), q1))))) else (dc_let (d_X4_refuse x0 (6 : Int32) x2 m) (fun q2 => some (((0 : Int32), q2)))))
set_option maxHeartbeats 8000000 in
theorem k_X4_readEvent_b151 {N : Nat} {Φ : (Option (Int32 × dc_M)) → Option Value → dc_M → Prop} (x0 : Nat) (x1 : Int32) (x2 : Int32) (s0 : Int32) (m : dc_M) (kR : ∀ (v : Int32) (m : dc_M), Φ (some ((v, m))) (some (.int v)) m)  {lv : ab_L} (f0 : ab_lk lv 0 = some (.ref x0)) (f1 : ab_lk lv 1 = some (.int x1)) (f2 : ab_lk lv 2 = some (.int x2)) : dc_pv 3 N ab_M_X4_readEvent 151 lv [.int s0] m (Φ (d_X4_readEvent_b151 x0 x1 x2 s0 m)) := by
  refine dc_pv.mono (dc_ok (C := C_X4_readEvent) (S := S_X4_readEvent) CO_X4_readEvent 400 151 [(0, .ref x0), (1, .int x1), (2, .int x2)] lv [.int s0] m (dc_sub_cons f0 (dc_sub_cons f1 (dc_sub_cons f2 (dc_sub_nil)))) ?_) (Nat.le_succ N)
  unfold d_X4_readEvent_b151
  refine dg_L (pc' := 153) [(6, .int s0), (0, .ref x0), (1, .int x1), (2, .int x2)] [] rfl (fun _ => rfl) rfl ?_
  refine dg_s (pc' := 155) [.int s0] rfl (fun _ => rfl) rfl ?_
  refine dw_if (fun t => Φ t) (0 ≤ (Int32.toInt s0)) [] 167 158 rfl (fun _ => rfl) (fun c0 => ?_) (fun c0 => ?_)
  · refine dw_g rfl ?_
    refine dg_s (pc' := 168) [.int x1] rfl (fun _ => rfl) rfl ?_
    refine dg_s (pc' := 170) [.int s0, .int x1] rfl (fun _ => rfl) rfl ?_
    refine dg_s (pc' := 171) [.int (x1 >>> (s0 &&& 31))] rfl (fun _ => rfl) rfl ?_
    refine dg_s (pc' := 172) [.int (1 : Int32), .int (x1 >>> (s0 &&& 31))] rfl (fun _ => rfl) rfl ?_
    refine dg_s (pc' := 173) [.int ((x1 >>> (s0 &&& 31)) &&& (1 : Int32))] rfl (fun _ => rfl) rfl ?_
    refine dw_if (fun t => Φ t) ((Int32.toInt ((x1 >>> (s0 &&& 31)) &&& (1 : Int32))) = 0) [] 184 176 rfl (fun _ => rfl) (fun c1 => ?_) (fun c1 => ?_)
    · refine dw_g rfl ?_
      refine dg_s (pc' := 185) [.int (1 : Int32)] rfl (fun _ => rfl) rfl ?_
      refine dg_s (pc' := 187) [.int s0, .int (1 : Int32)] rfl (fun _ => rfl) rfl ?_
      refine dg_s (pc' := 188) [.int ((1 : Int32) <<< (s0 &&& 31))] rfl (fun _ => rfl) rfl ?_
      exact dw_r (some (.inl (some (.int ((1 : Int32) <<< (s0 &&& 31))), m))) rfl (fun _ => rfl) (kR _ _)
    · refine dw_g rfl ?_
      refine dg_s (pc' := 177) [.ref x0] rfl (fun _ => rfl) rfl ?_
      refine dg_s (pc' := 178) [.int (5 : Int32), .ref x0] rfl (fun _ => rfl) rfl ?_
      refine dg_s (pc' := 179) [.int x2, .int (5 : Int32), .ref x0] rfl (fun _ => rfl) rfl ?_
      refine dw_l (fun t => Φ t) (pc' := 182) (fun q1 => []) (fun q1 => q1) rfl (fun _ => rfl) (fun q1 => ?_)
      refine dw_g rfl ?_
      refine dg_s (pc' := 183) [.int (0 : Int32)] rfl (fun _ => rfl) rfl ?_
      exact dw_r (some (.inl (some (.int (0 : Int32)), q1))) rfl (fun _ => rfl) (kR _ _)
  · refine dw_g rfl ?_
    refine dg_s (pc' := 159) [.ref x0] rfl (fun _ => rfl) rfl ?_
    refine dg_s (pc' := 161) [.int (6 : Int32), .ref x0] rfl (fun _ => rfl) rfl ?_
    refine dg_s (pc' := 162) [.int x2, .int (6 : Int32), .ref x0] rfl (fun _ => rfl) rfl ?_
    refine dw_l (fun t => Φ t) (pc' := 165) (fun q2 => []) (fun q2 => q2) rfl (fun _ => rfl) (fun q2 => ?_)
    refine dw_g rfl ?_
    refine dg_s (pc' := 166) [.int (0 : Int32)] rfl (fun _ => rfl) rfl ?_
    exact dw_r (some (.inl (some (.int (0 : Int32)), q2))) rfl (fun _ => rfl) (kR _ _)
noncomputable def d_X4_readEvent_b128 (x0 : Nat) (x1 : Int32) (x2 : Int32) (x3 : Int32) (x4 : Int32) (s0 : Int32) (m : dc_M) : Option (Int32 × dc_M) :=
  (if ¬ (Int32.toInt (m.1 x0 2)) = 0 then (d_X4_readEvent_b151 x0 x1 x2 (-4 : Int32) m) else ((d_X4_numberOf x0 x3 x4 s0 m).bind (fun q1 => (d_X4_readEvent_b151 x0 x1 x2 q1.1 q1.2))))
set_option maxHeartbeats 8000000 in
theorem k_X4_readEvent_b128 {N : Nat} {Φ : (Option (Int32 × dc_M)) → Option Value → dc_M → Prop} (x0 : Nat) (x1 : Int32) (x2 : Int32) (x3 : Int32) (x4 : Int32) (s0 : Int32) (m : dc_M) (kR : ∀ (v : Int32) (m : dc_M), Φ (some ((v, m))) (some (.int v)) m)  {lv : ab_L} (f0 : ab_lk lv 0 = some (.ref x0)) (f1 : ab_lk lv 1 = some (.int x1)) (f2 : ab_lk lv 2 = some (.int x2)) (f3 : ab_lk lv 3 = some (.int x3)) (f4 : ab_lk lv 4 = some (.int x4)) : dc_pv 3 N ab_M_X4_readEvent 128 lv [.int s0] m (Φ (d_X4_readEvent_b128 x0 x1 x2 x3 x4 s0 m)) := by
  refine dc_pv.mono (dc_ok (C := C_X4_readEvent) (S := S_X4_readEvent) CO_X4_readEvent 400 128 [(0, .ref x0), (1, .int x1), (2, .int x2), (3, .int x3), (4, .int x4)] lv [.int s0] m (dc_sub_cons f0 (dc_sub_cons f1 (dc_sub_cons f2 (dc_sub_cons f3 (dc_sub_cons f4 (dc_sub_nil)))))) ?_) (Nat.le_succ N)
  unfold d_X4_readEvent_b128
  refine dg_L (pc' := 130) [(5, .int s0), (0, .ref x0), (1, .int x1), (2, .int x2), (3, .int x3), (4, .int x4)] [] rfl (fun _ => rfl) rfl ?_
  refine dg_s (pc' := 131) [.ref x0] rfl (fun _ => rfl) rfl ?_
  refine dg_s (pc' := 134) [.int (m.1 x0 2)] rfl (fun _ => rfl) rfl ?_
  refine dw_if (fun t => Φ t) (¬ (Int32.toInt (m.1 x0 2)) = 0) [] 149 137 rfl (fun _ => rfl) (fun c0 => ?_) (fun c0 => ?_)
  · refine dw_g rfl ?_
    refine dw_s (pc' := 151) [.int (-4 : Int32)] rfl (fun _ => rfl) ?_
    exact dw_j rfl (fun lv1 hv => k_X4_readEvent_b151 (Φ := (fun t => Φ t)) x0 x1 x2 (-4 : Int32) m (fun _a _b => kR _a _b)  (hv.1 _ rfl) (hv.2.1 _ rfl) (hv.2.2.1 _ rfl))
  · refine dw_g rfl ?_
    refine dg_s (pc' := 138) [.ref x0] rfl (fun _ => rfl) rfl ?_
    refine dg_s (pc' := 139) [.int x3, .ref x0] rfl (fun _ => rfl) rfl ?_
    refine dg_s (pc' := 141) [.int x4, .int x3, .ref x0] rfl (fun _ => rfl) rfl ?_
    refine dg_s (pc' := 143) [.int s0, .int x4, .int x3, .ref x0] rfl (fun _ => rfl) rfl ?_
    refine dw_b (fun t => Φ t) (pc' := 146) (fun q1 => [.int q1.1]) (fun q1 => q1.2) rfl (fun _ => rfl) (fun q1 => ?_)
    refine dw_g rfl ?_
    refine dw_s (pc' := 151) [.int q1.1] rfl (fun _ => rfl) ?_
    exact dw_j rfl (fun lv1 hv => k_X4_readEvent_b151 (Φ := (fun t => Φ t)) x0 x1 x2 q1.1 q1.2 (fun _a _b => kR _a _b)  (hv.1 _ rfl) (hv.2.1 _ rfl) (hv.2.2.1 _ rfl))
noncomputable def d_X4_readEvent_b105 (x0 : Nat) (x1 : Int32) (x2 : Int32) (x3 : Int32) (s0 : Int32) (m : dc_M) : Option (Int32 × dc_M) :=
  ((d_X4_take x0 m).bind (fun q1 => (if (Int32.toInt (d_X4_isSign x0 (47 : Int32) q1)) = 0 then (d_X4_readEvent_b128 x0 x1 x2 x3 s0 (0 : Int32) q1) else ((d_X4_readIndex x0 q1).bind (fun q2 => (d_X4_readEvent_b128 x0 x1 x2 x3 s0 q2.1 q2.2))))))
set_option maxHeartbeats 8000000 in
theorem k_X4_readEvent_b105 {N : Nat} {Φ : (Option (Int32 × dc_M)) → Option Value → dc_M → Prop} (x0 : Nat) (x1 : Int32) (x2 : Int32) (x3 : Int32) (s0 : Int32) (m : dc_M) (kR : ∀ (v : Int32) (m : dc_M), Φ (some ((v, m))) (some (.int v)) m)  {lv : ab_L} (f0 : ab_lk lv 0 = some (.ref x0)) (f1 : ab_lk lv 1 = some (.int x1)) (f2 : ab_lk lv 2 = some (.int x2)) (f3 : ab_lk lv 3 = some (.int x3)) : dc_pv 3 N ab_M_X4_readEvent 105 lv [.int s0] m (Φ (d_X4_readEvent_b105 x0 x1 x2 x3 s0 m)) := by
  refine dc_pv.mono (dc_ok (C := C_X4_readEvent) (S := S_X4_readEvent) CO_X4_readEvent 400 105 [(0, .ref x0), (1, .int x1), (2, .int x2), (3, .int x3)] lv [.int s0] m (dc_sub_cons f0 (dc_sub_cons f1 (dc_sub_cons f2 (dc_sub_cons f3 (dc_sub_nil))))) ?_) (Nat.le_succ N)
  unfold d_X4_readEvent_b105
  refine dg_L (pc' := 107) [(4, .int s0), (0, .ref x0), (1, .int x1), (2, .int x2), (3, .int x3)] [] rfl (fun _ => rfl) rfl ?_
  refine dg_s (pc' := 108) [.ref x0] rfl (fun _ => rfl) rfl ?_
  refine dw_b (fun t => Φ t) (pc' := 111) (fun q1 => []) (fun q1 => q1) rfl (fun _ => rfl) (fun q1 => ?_)
  refine dw_g rfl ?_
  refine dg_s (pc' := 112) [.ref x0] rfl (fun _ => rfl) rfl ?_
  refine dg_s (pc' := 114) [.int (47 : Int32), .ref x0] rfl (fun _ => rfl) rfl ?_
  refine dg_s (pc' := 117) [.int (d_X4_isSign x0 (47 : Int32) q1)] rfl (fun _ => rfl) rfl ?_
  refine dw_if (fun t => Φ t) ((Int32.toInt (d_X4_isSign x0 (47 : Int32) q1)) = 0) [] 127 120 rfl (fun _ => rfl) (fun c0 => ?_) (fun c0 => ?_)
  · refine dw_g rfl ?_
    refine dw_s (pc' := 128) [.int (0 : Int32)] rfl (fun _ => rfl) ?_
    exact dw_j rfl (fun lv1 hv => k_X4_readEvent_b128 (Φ := (fun t => Φ t)) x0 x1 x2 x3 s0 (0 : Int32) q1 (fun _a _b => kR _a _b)  (hv.1 _ rfl) (hv.2.1 _ rfl) (hv.2.2.1 _ rfl) (hv.2.2.2.1 _ rfl) (hv.2.2.2.2.1 _ rfl))
  · refine dw_g rfl ?_
    refine dg_s (pc' := 121) [.ref x0] rfl (fun _ => rfl) rfl ?_
    refine dw_b (fun t => Φ t) (pc' := 124) (fun q2 => [.int q2.1]) (fun q2 => q2.2) rfl (fun _ => rfl) (fun q2 => ?_)
    refine dw_g rfl ?_
    refine dw_s (pc' := 128) [.int q2.1] rfl (fun _ => rfl) ?_
    exact dw_j rfl (fun lv1 hv => k_X4_readEvent_b128 (Φ := (fun t => Φ t)) x0 x1 x2 x3 s0 q2.1 q2.2 (fun _a _b => kR _a _b)  (hv.1 _ rfl) (hv.2.1 _ rfl) (hv.2.2.1 _ rfl) (hv.2.2.2.1 _ rfl) (hv.2.2.2.2.1 _ rfl))
noncomputable def d_X4_readEvent_b91 (x0 : Nat) (x1 : Int32) (x2 : Int32) (x3 : Int32) (m : dc_M) : Option (Int32 × dc_M) :=
  (if ¬ (Int32.toInt (m.1 x0 7)) = 43 then (d_X4_readEvent_b105 x0 x1 x2 x3 (0 : Int32) m) else (d_X4_readEvent_b105 x0 x1 x2 x3 (1 : Int32) m))
set_option maxHeartbeats 8000000 in
theorem k_X4_readEvent_b91 {N : Nat} {Φ : (Option (Int32 × dc_M)) → Option Value → dc_M → Prop} (x0 : Nat) (x1 : Int32) (x2 : Int32) (x3 : Int32) (m : dc_M) (kR : ∀ (v : Int32) (m : dc_M), Φ (some ((v, m))) (some (.int v)) m)  {lv : ab_L} (f0 : ab_lk lv 0 = some (.ref x0)) (f1 : ab_lk lv 1 = some (.int x1)) (f2 : ab_lk lv 2 = some (.int x2)) (f3 : ab_lk lv 3 = some (.int x3)) : dc_pv 3 N ab_M_X4_readEvent 91 lv [] m (Φ (d_X4_readEvent_b91 x0 x1 x2 x3 m)) := by
  refine dc_pv.mono (dc_ok (C := C_X4_readEvent) (S := S_X4_readEvent) CO_X4_readEvent 400 91 [(0, .ref x0), (1, .int x1), (2, .int x2), (3, .int x3)] lv [] m (dc_sub_cons f0 (dc_sub_cons f1 (dc_sub_cons f2 (dc_sub_cons f3 (dc_sub_nil))))) ?_) (Nat.le_succ N)
  unfold d_X4_readEvent_b91
  refine dg_s (pc' := 92) [.ref x0] rfl (fun _ => rfl) rfl ?_
  refine dg_s (pc' := 95) [.int (m.1 x0 7)] rfl (fun _ => rfl) rfl ?_
  refine dg_s (pc' := 97) [.int (43 : Int32), .int (m.1 x0 7)] rfl (fun _ => rfl) rfl ?_
  refine dw_if (fun t => Φ t) (¬ (Int32.toInt (m.1 x0 7)) = 43) [] 104 100 rfl (fun _ => rfl) (fun c0 => ?_) (fun c0 => ?_)
  · refine dw_g rfl ?_
    refine dw_s (pc' := 105) [.int (0 : Int32)] rfl (fun _ => rfl) ?_
    exact dw_j rfl (fun lv1 hv => k_X4_readEvent_b105 (Φ := (fun t => Φ t)) x0 x1 x2 x3 (0 : Int32) m (fun _a _b => kR _a _b)  (hv.1 _ rfl) (hv.2.1 _ rfl) (hv.2.2.1 _ rfl) (hv.2.2.2.1 _ rfl))
  · refine dw_g rfl ?_
    refine dg_s (pc' := 101) [.int (1 : Int32)] rfl (fun _ => rfl) rfl ?_
    refine dw_s (pc' := 105) [.int (1 : Int32)] rfl (fun _ => rfl) ?_
    exact dw_j rfl (fun lv1 hv => k_X4_readEvent_b105 (Φ := (fun t => Φ t)) x0 x1 x2 x3 (1 : Int32) m (fun _a _b => kR _a _b)  (hv.1 _ rfl) (hv.2.1 _ rfl) (hv.2.2.1 _ rfl) (hv.2.2.2.1 _ rfl))
noncomputable def d_X4_readEvent_b31 (x0 : Nat) (x1 : Int32) (x2 : Int32) (s0 : Int32) (m : dc_M) : Option (Int32 × dc_M) :=
  (if 0 ≤ (Int32.toInt s0) then ((d_X4_take x0 m).bind (fun q1 => (if ¬ (Int32.toInt (d_X4_isSign x0 (43 : Int32) q1)) = 0 then (d_X4_readEvent_b91 x0 x1 x2 s0 q1) else (if ¬ (Int32.toInt (d_X4_isSign x0 (45 : Int32) q1)) = 0 then (d_X4_readEvent_b91 x0 x1 x2 s0 q1) else (dc_let (d_X4_refuse x0 (2 : Int32) (q1.1 x0 6) q1) (fun q2 => some (((0 : Int32), q2)))))))) else (if (Int32.toInt (d_X4_isLetter x0 m)) = 0 then (dc_let (d_X4_refuse x0 (2 : Int32) (m.1 x0 6) m) (fun q3 => some (((0 : Int32), q3)))) else (dc_let (d_X4_refuse x0 (4 : Int32) (m.1 x0 6) m) (fun q4 => some (((0 : Int32), q4))))))
set_option maxHeartbeats 8000000 in
theorem k_X4_readEvent_b31 {N : Nat} {Φ : (Option (Int32 × dc_M)) → Option Value → dc_M → Prop} (x0 : Nat) (x1 : Int32) (x2 : Int32) (s0 : Int32) (m : dc_M) (kR : ∀ (v : Int32) (m : dc_M), Φ (some ((v, m))) (some (.int v)) m)  {lv : ab_L} (f0 : ab_lk lv 0 = some (.ref x0)) (f1 : ab_lk lv 1 = some (.int x1)) (f2 : ab_lk lv 2 = some (.int x2)) : dc_pv 3 N ab_M_X4_readEvent 31 lv [.int s0] m (Φ (d_X4_readEvent_b31 x0 x1 x2 s0 m)) := by
  refine dc_pv.mono (dc_ok (C := C_X4_readEvent) (S := S_X4_readEvent) CO_X4_readEvent 400 31 [(0, .ref x0), (1, .int x1), (2, .int x2)] lv [.int s0] m (dc_sub_cons f0 (dc_sub_cons f1 (dc_sub_cons f2 (dc_sub_nil)))) ?_) (Nat.le_succ N)
  unfold d_X4_readEvent_b31
  refine dg_L (pc' := 32) [(3, .int s0), (0, .ref x0), (1, .int x1), (2, .int x2)] [] rfl (fun _ => rfl) rfl ?_
  refine dg_s (pc' := 33) [.int s0] rfl (fun _ => rfl) rfl ?_
  refine dw_if (fun t => Φ t) (0 ≤ (Int32.toInt s0)) [] 58 36 rfl (fun _ => rfl) (fun c0 => ?_) (fun c0 => ?_)
  · refine dw_g rfl ?_
    refine dg_s (pc' := 59) [.ref x0] rfl (fun _ => rfl) rfl ?_
    refine dw_b (fun t => Φ t) (pc' := 62) (fun q1 => []) (fun q1 => q1) rfl (fun _ => rfl) (fun q1 => ?_)
    refine dw_g rfl ?_
    refine dg_s (pc' := 63) [.ref x0] rfl (fun _ => rfl) rfl ?_
    refine dg_s (pc' := 65) [.int (43 : Int32), .ref x0] rfl (fun _ => rfl) rfl ?_
    refine dg_s (pc' := 68) [.int (d_X4_isSign x0 (43 : Int32) q1)] rfl (fun _ => rfl) rfl ?_
    refine dw_if (fun t => Φ t) (¬ (Int32.toInt (d_X4_isSign x0 (43 : Int32) q1)) = 0) [] 91 71 rfl (fun _ => rfl) (fun c1 => ?_) (fun c1 => ?_)
    · exact dw_j rfl (fun lv1 hv => k_X4_readEvent_b91 (Φ := (fun t => Φ t)) x0 x1 x2 s0 q1 (fun _a _b => kR _a _b)  (hv.1 _ rfl) (hv.2.1 _ rfl) (hv.2.2.1 _ rfl) (hv.2.2.2.1 _ rfl))
    · refine dw_g rfl ?_
      refine dg_s (pc' := 72) [.ref x0] rfl (fun _ => rfl) rfl ?_
      refine dg_s (pc' := 74) [.int (45 : Int32), .ref x0] rfl (fun _ => rfl) rfl ?_
      refine dg_s (pc' := 77) [.int (d_X4_isSign x0 (45 : Int32) q1)] rfl (fun _ => rfl) rfl ?_
      refine dw_if (fun t => Φ t) (¬ (Int32.toInt (d_X4_isSign x0 (45 : Int32) q1)) = 0) [] 91 80 rfl (fun _ => rfl) (fun c2 => ?_) (fun c2 => ?_)
      · exact dw_j rfl (fun lv1 hv => k_X4_readEvent_b91 (Φ := (fun t => Φ t)) x0 x1 x2 s0 q1 (fun _a _b => kR _a _b)  (hv.1 _ rfl) (hv.2.1 _ rfl) (hv.2.2.1 _ rfl) (hv.2.2.2.1 _ rfl))
      · refine dw_g rfl ?_
        refine dg_s (pc' := 81) [.ref x0] rfl (fun _ => rfl) rfl ?_
        refine dg_s (pc' := 82) [.int (2 : Int32), .ref x0] rfl (fun _ => rfl) rfl ?_
        refine dg_s (pc' := 83) [.ref x0, .int (2 : Int32), .ref x0] rfl (fun _ => rfl) rfl ?_
        refine dg_s (pc' := 86) [.int (q1.1 x0 6), .int (2 : Int32), .ref x0] rfl (fun _ => rfl) rfl ?_
        refine dw_l (fun t => Φ t) (pc' := 89) (fun q2 => []) (fun q2 => q2) rfl (fun _ => rfl) (fun q2 => ?_)
        refine dw_g rfl ?_
        refine dg_s (pc' := 90) [.int (0 : Int32)] rfl (fun _ => rfl) rfl ?_
        exact dw_r (some (.inl (some (.int (0 : Int32)), q2))) rfl (fun _ => rfl) (kR _ _)
  · refine dw_g rfl ?_
    refine dg_s (pc' := 37) [.ref x0] rfl (fun _ => rfl) rfl ?_
    refine dg_s (pc' := 38) [.ref x0, .ref x0] rfl (fun _ => rfl) rfl ?_
    refine dg_s (pc' := 41) [.int (d_X4_isLetter x0 m), .ref x0] rfl (fun _ => rfl) rfl ?_
    refine dw_if (fun t => Φ t) ((Int32.toInt (d_X4_isLetter x0 m)) = 0) [.ref x0] 48 44 rfl (fun _ => rfl) (fun c1 => ?_) (fun c1 => ?_)
    · refine dw_g rfl ?_
      refine dg_s (pc' := 49) [.int (2 : Int32), .ref x0] rfl (fun _ => rfl) rfl ?_
      refine dg_s (pc' := 50) [.ref x0, .int (2 : Int32), .ref x0] rfl (fun _ => rfl) rfl ?_
      refine dg_s (pc' := 53) [.int (m.1 x0 6), .int (2 : Int32), .ref x0] rfl (fun _ => rfl) rfl ?_
      refine dw_l (fun t => Φ t) (pc' := 56) (fun q3 => []) (fun q3 => q3) rfl (fun _ => rfl) (fun q3 => ?_)
      refine dw_g rfl ?_
      refine dg_s (pc' := 57) [.int (0 : Int32)] rfl (fun _ => rfl) rfl ?_
      exact dw_r (some (.inl (some (.int (0 : Int32)), q3))) rfl (fun _ => rfl) (kR _ _)
    · refine dw_g rfl ?_
      refine dg_s (pc' := 45) [.int (4 : Int32), .ref x0] rfl (fun _ => rfl) rfl ?_
      refine dg_s (pc' := 49) [.int (4 : Int32), .ref x0] rfl (fun _ => rfl) rfl ?_
      refine dg_s (pc' := 50) [.ref x0, .int (4 : Int32), .ref x0] rfl (fun _ => rfl) rfl ?_
      refine dg_s (pc' := 53) [.int (m.1 x0 6), .int (4 : Int32), .ref x0] rfl (fun _ => rfl) rfl ?_
      refine dw_l (fun t => Φ t) (pc' := 56) (fun q4 => []) (fun q4 => q4) rfl (fun _ => rfl) (fun q4 => ?_)
      refine dw_g rfl ?_
      refine dg_s (pc' := 57) [.int (0 : Int32)] rfl (fun _ => rfl) rfl ?_
      exact dw_r (some (.inl (some (.int (0 : Int32)), q4))) rfl (fun _ => rfl) (kR _ _)
noncomputable def d_X4_readEvent (x0 : Nat) (x1 : Int32) (m : dc_M) : Option (Int32 × dc_M) :=
  (if (Int32.toInt (d_X4_isLetter x0 m)) = 0 then (d_X4_readEvent_b31 x0 x1 (m.1 x0 6) (-4 : Int32) m) else ((d_X3_wireCalled (m.2.2.1 x0 8) ((m.1 x0 7) - (97 : Int32)) m).bind (fun q1 => (d_X4_readEvent_b31 x0 x1 (m.1 x0 6) q1 m))))
set_option maxHeartbeats 8000000 in
theorem k_X4_readEvent {N : Nat} {Φ : (Option (Int32 × dc_M)) → Option Value → dc_M → Prop} (x0 : Nat) (x1 : Int32) (m : dc_M) (kR : ∀ (v : Int32) (m : dc_M), Φ (some ((v, m))) (some (.int v)) m)  {lv : ab_L} (f0 : ab_lk lv 0 = some (.ref x0)) (f1 : ab_lk lv 1 = some (.int x1)) : dc_pv 3 N ab_M_X4_readEvent 0 lv [] m (Φ (d_X4_readEvent x0 x1 m)) := by
  refine dc_pv.mono (dc_ok (C := C_X4_readEvent) (S := S_X4_readEvent) CO_X4_readEvent 400 0 [(0, .ref x0), (1, .int x1)] lv [] m (dc_sub_cons f0 (dc_sub_cons f1 (dc_sub_nil))) ?_) (Nat.le_succ N)
  unfold d_X4_readEvent
  refine dg_s (pc' := 1) [.ref x0] rfl (fun _ => rfl) rfl ?_
  refine dg_s (pc' := 4) [.int (m.1 x0 6)] rfl (fun _ => rfl) rfl ?_
  refine dg_L (pc' := 5) [(2, .int (m.1 x0 6)), (0, .ref x0), (1, .int x1)] [] rfl (fun _ => rfl) rfl ?_
  refine dg_s (pc' := 6) [.ref x0] rfl (fun _ => rfl) rfl ?_
  refine dg_s (pc' := 9) [.int (d_X4_isLetter x0 m)] rfl (fun _ => rfl) rfl ?_
  refine dw_if (fun t => Φ t) ((Int32.toInt (d_X4_isLetter x0 m)) = 0) [] 29 12 rfl (fun _ => rfl) (fun c0 => ?_) (fun c0 => ?_)
  · refine dw_g rfl ?_
    refine dw_s (pc' := 31) [.int (-4 : Int32)] rfl (fun _ => rfl) ?_
    exact dw_j rfl (fun lv1 hv => k_X4_readEvent_b31 (Φ := (fun t => Φ t)) x0 x1 (m.1 x0 6) (-4 : Int32) m (fun _a _b => kR _a _b)  (hv.1 _ rfl) (hv.2.1 _ rfl) (hv.2.2.1 _ rfl))
  · refine dw_g rfl ?_
    refine dg_s (pc' := 13) [.ref x0] rfl (fun _ => rfl) rfl ?_
    refine dg_s (pc' := 16) [.ref (m.2.2.1 x0 8)] rfl (fun _ => rfl) rfl ?_
    refine dg_s (pc' := 17) [.ref x0, .ref (m.2.2.1 x0 8)] rfl (fun _ => rfl) rfl ?_
    refine dg_s (pc' := 20) [.int (m.1 x0 7), .ref (m.2.2.1 x0 8)] rfl (fun _ => rfl) rfl ?_
    refine dg_s (pc' := 22) [.int (97 : Int32), .int (m.1 x0 7), .ref (m.2.2.1 x0 8)] rfl (fun _ => rfl) rfl ?_
    refine dg_s (pc' := 23) [.int ((m.1 x0 7) - (97 : Int32)), .ref (m.2.2.1 x0 8)] rfl (fun _ => rfl) rfl ?_
    refine dw_b (fun t => Φ t) (pc' := 26) (fun q1 => [.int q1]) (fun q1 => m) rfl (fun _ => rfl) (fun q1 => ?_)
    refine dw_g rfl ?_
    refine dw_s (pc' := 31) [.int q1] rfl (fun _ => rfl) ?_
    exact dw_j rfl (fun lv1 hv => k_X4_readEvent_b31 (Φ := (fun t => Φ t)) x0 x1 (m.1 x0 6) q1 m (fun _a _b => kR _a _b)  (hv.1 _ rfl) (hv.2.1 _ rfl) (hv.2.2.1 _ rfl))
noncomputable def H_X4_readEvent : dc_H := fun As m k => match As with
  | [.ref x0, .int x1] => (d_X4_readEvent x0 x1 m).bind (fun q => k (some (.int q.1)) q.2)
  | _ => dc_kz
theorem H_X4_readEvent_ok : dc_cok 3 51 H_X4_readEvent := fun M' hG N As m k P hz hP => by
  obtain rfl : ab_M_X4_readEvent = M' := Option.some.inj hG
  unfold H_X4_readEvent at hP
  split at hP
  · rename_i x0 x1
    exact dc_pv.imp (k_X4_readEvent (Φ := fun (t : Option (Int32 × dc_M)) r m' => P (t.bind (fun q => k (some (.int q.1)) q.2)) → P (k r m')) x0 x1 m (fun _ _ h => h) rfl rfl) (fun r m' h => h hP)
  · exact absurd hP hz
noncomputable def C_X4_takeSign : List (Nat × dc_H) := [(58, H_X4_isSign), (56, H_X4_refuse), (55, H_X4_take)]
theorem CO_X4_takeSign {u : Nat} : dc_CO u C_X4_takeSign := dc_CO_cons H_X4_isSign_ok (dc_CO_cons H_X4_refuse_ok (dc_CO_cons H_X4_take_ok (dc_CO_nil)))
def S_X4_takeSign : List (Nat × List Nat) := []
noncomputable def d_X4_takeSign (x0 : Nat) (x1 : Int32) (m : dc_M) : Option dc_M :=
  (if (Int32.toInt (d_X4_isSign x0 x1 m)) = 0 then (dc_let (d_X4_refuse x0 (2 : Int32) (m.1 x0 6) m) (fun q1 => some (q1))) else ((d_X4_take x0 m).bind (fun q2 => some (q2))))
set_option maxHeartbeats 8000000 in
theorem k_X4_takeSign {u : Nat} {N : Nat} {Φ : (Option dc_M) → Option Value → dc_M → Prop} (x0 : Nat) (x1 : Int32) (m : dc_M) (kR : ∀  (m : dc_M), Φ (some (m)) (none) m)  {lv : ab_L} (f0 : ab_lk lv 0 = some (.ref x0)) (f1 : ab_lk lv 1 = some (.int x1)) : dc_pv u N ab_M_X4_takeSign 0 lv [] m (Φ (d_X4_takeSign x0 x1 m)) := by
  refine dc_pv.mono (dc_ok (C := C_X4_takeSign) (S := S_X4_takeSign) CO_X4_takeSign 400 0 [(0, .ref x0), (1, .int x1)] lv [] m (dc_sub_cons f0 (dc_sub_cons f1 (dc_sub_nil))) ?_) (Nat.le_succ N)
  unfold d_X4_takeSign
  refine dg_s (pc' := 1) [.ref x0] rfl (fun _ => rfl) rfl ?_
  refine dg_s (pc' := 2) [.int x1, .ref x0] rfl (fun _ => rfl) rfl ?_
  refine dg_s (pc' := 5) [.int (d_X4_isSign x0 x1 m)] rfl (fun _ => rfl) rfl ?_
  refine dw_if (fun t => Φ t) ((Int32.toInt (d_X4_isSign x0 x1 m)) = 0) [] 15 8 rfl (fun _ => rfl) (fun c0 => ?_) (fun c0 => ?_)
  · refine dw_g rfl ?_
    refine dg_s (pc' := 16) [.ref x0] rfl (fun _ => rfl) rfl ?_
    refine dg_s (pc' := 17) [.int (2 : Int32), .ref x0] rfl (fun _ => rfl) rfl ?_
    refine dg_s (pc' := 18) [.ref x0, .int (2 : Int32), .ref x0] rfl (fun _ => rfl) rfl ?_
    refine dg_s (pc' := 21) [.int (m.1 x0 6), .int (2 : Int32), .ref x0] rfl (fun _ => rfl) rfl ?_
    refine dw_l (fun t => Φ t) (pc' := 24) (fun q1 => []) (fun q1 => q1) rfl (fun _ => rfl) (fun q1 => ?_)
    refine dw_g rfl ?_
    exact dw_r (some (.inl (none, q1))) rfl (fun _ => rfl) (kR _)
  · refine dw_g rfl ?_
    refine dg_s (pc' := 9) [.ref x0] rfl (fun _ => rfl) rfl ?_
    refine dw_b (fun t => Φ t) (pc' := 12) (fun q2 => []) (fun q2 => q2) rfl (fun _ => rfl) (fun q2 => ?_)
    refine dw_g rfl ?_
    refine dg_s (pc' := 24) [] rfl (fun _ => rfl) rfl ?_
    exact dw_r (some (.inl (none, q2))) rfl (fun _ => rfl) (kR _)
noncomputable def H_X4_takeSign : dc_H := fun As m k => match As with
  | [.ref x0, .int x1] => (d_X4_takeSign x0 x1 m).bind (fun q => k (none) q)
  | _ => dc_kz
theorem H_X4_takeSign_ok {u : Nat} : dc_cok u 54 H_X4_takeSign := fun M' hG N As m k P hz hP => by
  obtain rfl : ab_M_X4_takeSign = M' := Option.some.inj hG
  unfold H_X4_takeSign at hP
  split at hP
  · rename_i x0 x1
    exact dc_pv.imp (k_X4_takeSign (Φ := fun (t : Option dc_M) r m' => P (t.bind (fun q => k (none) q)) → P (k r m')) x0 x1 m (fun _ h => h) rfl rfl) (fun r m' h => h hP)
  · exact absurd hP hz
noncomputable def C_X4_readPlace : List (Nat × dc_H) := [(35, H_X3_addPlace), (57, H_X4_isLetter), (51, H_X4_readEvent), (56, H_X4_refuse), (55, H_X4_take), (54, H_X4_takeSign)]
theorem CO_X4_readPlace : dc_CO 3 C_X4_readPlace := dc_CO_cons H_X3_addPlace_ok (dc_CO_cons H_X4_isLetter_ok (dc_CO_cons H_X4_readEvent_ok (dc_CO_cons H_X4_refuse_ok (dc_CO_cons H_X4_take_ok (dc_CO_cons H_X4_takeSign_ok (dc_CO_nil))))))
def S_X4_readPlace : List (Nat × List Nat) := [(31, [0, 1, 2]), (58, [0, 1]), (72, [0, 1, 2, 3]), (99, [0, 1, 2])]
noncomputable def d_X4_readPlace_b99 (x0 : Nat) (x1 : Int32) (x2 : Int32) (m : dc_M) : Option dc_M :=
  (if (Int32.toInt (m.1 x0 5)) = 2 then (if (Int32.toInt ((m.1 x0 7) - (48 : Int32))) ≤ 1 then ((d_X4_take x0 m).bind (fun q1 => ((d_X4_takeSign x0 (59 : Int32) q1).bind (fun q2 => ((d_X3_addPlace (q2.2.2.1 x0 8) x1 x2 ((m.1 x0 7) - (48 : Int32)) q2).bind (fun q3 => some (q3))))))) else (dc_let (d_X4_refuse x0 (3 : Int32) (m.1 x0 6) m) (fun q4 => some (q4)))) else (dc_let (d_X4_refuse x0 (2 : Int32) (m.1 x0 6) m) (fun q5 => some (q5))))
set_option maxHeartbeats 8000000 in
theorem k_X4_readPlace_b99 {N : Nat} {Φ : (Option dc_M) → Option Value → dc_M → Prop} (x0 : Nat) (x1 : Int32) (x2 : Int32) (m : dc_M) (kR : ∀  (m : dc_M), Φ (some (m)) (none) m)  {lv : ab_L} (f0 : ab_lk lv 0 = some (.ref x0)) (f1 : ab_lk lv 1 = some (.int x1)) (f2 : ab_lk lv 2 = some (.int x2)) : dc_pv 3 N ab_M_X4_readPlace 99 lv [] m (Φ (d_X4_readPlace_b99 x0 x1 x2 m)) := by
  refine dc_pv.mono (dc_ok (C := C_X4_readPlace) (S := S_X4_readPlace) CO_X4_readPlace 400 99 [(0, .ref x0), (1, .int x1), (2, .int x2)] lv [] m (dc_sub_cons f0 (dc_sub_cons f1 (dc_sub_cons f2 (dc_sub_nil)))) ?_) (Nat.le_succ N)
  unfold d_X4_readPlace_b99
  refine dg_s (pc' := 100) [.ref x0] rfl (fun _ => rfl) rfl ?_
  refine dg_s (pc' := 103) [.int (m.1 x0 7)] rfl (fun _ => rfl) rfl ?_
  refine dg_s (pc' := 105) [.int (48 : Int32), .int (m.1 x0 7)] rfl (fun _ => rfl) rfl ?_
  refine dg_s (pc' := 106) [.int ((m.1 x0 7) - (48 : Int32))] rfl (fun _ => rfl) rfl ?_
  refine dg_L (pc' := 107) [(3, .int ((m.1 x0 7) - (48 : Int32))), (0, .ref x0), (1, .int x1), (2, .int x2)] [] rfl (fun _ => rfl) rfl ?_
  refine dg_s (pc' := 108) [.ref x0] rfl (fun _ => rfl) rfl ?_
  refine dg_s (pc' := 111) [.int (m.1 x0 5)] rfl (fun _ => rfl) rfl ?_
  refine dg_s (pc' := 112) [.int (2 : Int32), .int (m.1 x0 5)] rfl (fun _ => rfl) rfl ?_
  refine dw_if (fun t => Φ t) ((Int32.toInt (m.1 x0 5)) = 2) [] 127 115 rfl (fun _ => rfl) (fun c0 => ?_) (fun c0 => ?_)
  · refine dw_g rfl ?_
    refine dg_s (pc' := 128) [.int ((m.1 x0 7) - (48 : Int32))] rfl (fun _ => rfl) rfl ?_
    refine dg_s (pc' := 129) [.int (1 : Int32), .int ((m.1 x0 7) - (48 : Int32))] rfl (fun _ => rfl) rfl ?_
    refine dw_if (fun t => Φ t) ((Int32.toInt ((m.1 x0 7) - (48 : Int32))) ≤ 1) [] 144 132 rfl (fun _ => rfl) (fun c1 => ?_) (fun c1 => ?_)
    · refine dw_g rfl ?_
      refine dg_s (pc' := 145) [.ref x0] rfl (fun _ => rfl) rfl ?_
      refine dw_b (fun t => Φ t) (pc' := 148) (fun q1 => []) (fun q1 => q1) rfl (fun _ => rfl) (fun q1 => ?_)
      refine dw_g rfl ?_
      refine dg_s (pc' := 149) [.ref x0] rfl (fun _ => rfl) rfl ?_
      refine dg_s (pc' := 151) [.int (59 : Int32), .ref x0] rfl (fun _ => rfl) rfl ?_
      refine dw_b (fun t => Φ t) (pc' := 154) (fun q2 => []) (fun q2 => q2) rfl (fun _ => rfl) (fun q2 => ?_)
      refine dw_g rfl ?_
      refine dg_s (pc' := 155) [.ref x0] rfl (fun _ => rfl) rfl ?_
      refine dg_s (pc' := 158) [.ref (q2.2.2.1 x0 8)] rfl (fun _ => rfl) rfl ?_
      refine dg_s (pc' := 159) [.int x1, .ref (q2.2.2.1 x0 8)] rfl (fun _ => rfl) rfl ?_
      refine dg_s (pc' := 160) [.int x2, .int x1, .ref (q2.2.2.1 x0 8)] rfl (fun _ => rfl) rfl ?_
      refine dg_s (pc' := 161) [.int ((m.1 x0 7) - (48 : Int32)), .int x2, .int x1, .ref (q2.2.2.1 x0 8)] rfl (fun _ => rfl) rfl ?_
      refine dw_b (fun t => Φ t) (pc' := 164) (fun q3 => []) (fun q3 => q3) rfl (fun _ => rfl) (fun q3 => ?_)
      refine dw_g rfl ?_
      exact dw_r (some (.inl (none, q3))) rfl (fun _ => rfl) (kR _)
    · refine dw_g rfl ?_
      refine dg_s (pc' := 133) [.ref x0] rfl (fun _ => rfl) rfl ?_
      refine dg_s (pc' := 134) [.int (3 : Int32), .ref x0] rfl (fun _ => rfl) rfl ?_
      refine dg_s (pc' := 135) [.ref x0, .int (3 : Int32), .ref x0] rfl (fun _ => rfl) rfl ?_
      refine dg_s (pc' := 138) [.int (m.1 x0 6), .int (3 : Int32), .ref x0] rfl (fun _ => rfl) rfl ?_
      refine dw_l (fun t => Φ t) (pc' := 141) (fun q4 => []) (fun q4 => q4) rfl (fun _ => rfl) (fun q4 => ?_)
      refine dw_g rfl ?_
      refine dg_s (pc' := 164) [] rfl (fun _ => rfl) rfl ?_
      exact dw_r (some (.inl (none, q4))) rfl (fun _ => rfl) (kR _)
  · refine dw_g rfl ?_
    refine dg_s (pc' := 116) [.ref x0] rfl (fun _ => rfl) rfl ?_
    refine dg_s (pc' := 117) [.int (2 : Int32), .ref x0] rfl (fun _ => rfl) rfl ?_
    refine dg_s (pc' := 118) [.ref x0, .int (2 : Int32), .ref x0] rfl (fun _ => rfl) rfl ?_
    refine dg_s (pc' := 121) [.int (m.1 x0 6), .int (2 : Int32), .ref x0] rfl (fun _ => rfl) rfl ?_
    refine dw_l (fun t => Φ t) (pc' := 124) (fun q5 => []) (fun q5 => q5) rfl (fun _ => rfl) (fun q5 => ?_)
    refine dw_g rfl ?_
    refine dg_s (pc' := 164) [] rfl (fun _ => rfl) rfl ?_
    exact dw_r (some (.inl (none, q5))) rfl (fun _ => rfl) (kR _)
noncomputable def d_X4_readPlace_l72b (x0 : Nat) (x1 : Int32) (x2 : Int32) (x3 : Int32) (m : dc_M) : Option ((Int32 × Int32 × dc_M) ⊕ dc_M) :=
  (if 16 ≤ (Int32.toInt x3) then ((d_X4_readPlace_b99 x0 x1 x2 m).map (fun z => Sum.inr (z))) else (if (Int32.toInt (d_X4_isLetter x0 m)) = 0 then ((d_X4_readPlace_b99 x0 x1 x2 m).map (fun z => Sum.inr (z))) else ((d_X4_readEvent x0 x2 m).bind (fun q1 => some (Sum.inl ((x2 ||| q1.1), (x3 + (1 : Int32)), q1.2))))))
noncomputable def d_X4_readPlace_l72s (x0 : Nat) (x1 : Int32) : (Int32 × Int32 × dc_M) → Option ((Int32 × Int32 × dc_M) ⊕ dc_M) := fun s => d_X4_readPlace_l72b x0 x1 s.1 s.2.1 s.2.2
noncomputable def d_X4_readPlace_l72 (x0 : Nat) (x1 : Int32) (x2 : Int32) (x3 : Int32) (m : dc_M) : Option dc_M := dc_lp (d_X4_readPlace_l72s x0 x1) (x2, x3, m)
set_option maxHeartbeats 8000000 in
theorem k_X4_readPlace_l72 {Φ : (Option dc_M) → Option Value → dc_M → Prop} (x0 : Nat) (x1 : Int32) (kR : ∀  (m : dc_M), Φ (some (m)) (none) m) : ∀ (N : Nat), ∀ (x2 : Int32) (x3 : Int32) (m : dc_M) (lv : ab_L), ab_lk lv 0 = some (.ref x0) → ab_lk lv 1 = some (.int x1) → ab_lk lv 2 = some (.int x2) → ab_lk lv 3 = some (.int x3) → dc_pv 3 N ab_M_X4_readPlace 72 lv [] m (Φ (d_X4_readPlace_l72 x0 x1 x2 x3 m)) := by
  intro N
  induction N with
  | zero => intros; exact dc_pv_zero
  | succ N ih =>
    intro x2 x3 m lv f0 f1 f2 f3
    refine dc_ok (C := C_X4_readPlace) (S := S_X4_readPlace) CO_X4_readPlace 400 72 [(0, .ref x0), (1, .int x1), (2, .int x2), (3, .int x3)] lv [] m (dc_sub_cons f0 (dc_sub_cons f1 (dc_sub_cons f2 (dc_sub_cons f3 (dc_sub_nil))))) ?_
    unfold d_X4_readPlace_l72
    rw [dc_lp_eq]
    show (fun t x => dc_lf 3 N ab_M_X4_readPlace (Φ (Option.bind t (dc_bk (d_X4_readPlace_l72s x0 x1)))) x) (d_X4_readPlace_l72b x0 x1 x2 x3 m) _
    dsimp only
    unfold d_X4_readPlace_l72b
    refine dg_s (pc' := 73) [.int x3] rfl (fun _ => rfl) rfl ?_
    refine dg_s (pc' := 75) [.int (16 : Int32), .int x3] rfl (fun _ => rfl) rfl ?_
    refine dw_if (fun t => Φ (Option.bind t (dc_bk (d_X4_readPlace_l72s x0 x1)))) (16 ≤ (Int32.toInt x3)) [] 99 78 rfl (fun _ => rfl) (fun c0 => ?_) (fun c0 => ?_)
    · exact dw_j rfl (fun lv1 hv => k_X4_readPlace_b99 (Φ := (fun t => Φ (Option.bind (t.map (fun z => Sum.inr (z))) (dc_bk (d_X4_readPlace_l72s x0 x1))))) x0 x1 x2 m (fun _b => kR _b)  (hv.1 _ rfl) (hv.2.1 _ rfl) (hv.2.2.1 _ rfl))
    · refine dw_g rfl ?_
      refine dg_s (pc' := 79) [.ref x0] rfl (fun _ => rfl) rfl ?_
      refine dg_s (pc' := 82) [.int (d_X4_isLetter x0 m)] rfl (fun _ => rfl) rfl ?_
      refine dw_if (fun t => Φ (Option.bind t (dc_bk (d_X4_readPlace_l72s x0 x1)))) ((Int32.toInt (d_X4_isLetter x0 m)) = 0) [] 99 85 rfl (fun _ => rfl) (fun c1 => ?_) (fun c1 => ?_)
      · exact dw_j rfl (fun lv1 hv => k_X4_readPlace_b99 (Φ := (fun t => Φ (Option.bind (t.map (fun z => Sum.inr (z))) (dc_bk (d_X4_readPlace_l72s x0 x1))))) x0 x1 x2 m (fun _b => kR _b)  (hv.1 _ rfl) (hv.2.1 _ rfl) (hv.2.2.1 _ rfl))
      · refine dw_g rfl ?_
        refine dg_s (pc' := 86) [.int x2] rfl (fun _ => rfl) rfl ?_
        refine dg_s (pc' := 87) [.ref x0, .int x2] rfl (fun _ => rfl) rfl ?_
        refine dg_s (pc' := 88) [.int x2, .ref x0, .int x2] rfl (fun _ => rfl) rfl ?_
        refine dw_b (fun t => Φ (Option.bind t (dc_bk (d_X4_readPlace_l72s x0 x1)))) (pc' := 91) (fun q1 => [.int q1.1, .int x2]) (fun q1 => q1.2) rfl (fun _ => rfl) (fun q1 => ?_)
        refine dw_g rfl ?_
        refine dg_s (pc' := 92) [.int (x2 ||| q1.1)] rfl (fun _ => rfl) rfl ?_
        refine dg_L (pc' := 93) [(2, .int (x2 ||| q1.1)), (0, .ref x0), (1, .int x1), (3, .int x3)] [] rfl (fun _ => rfl) rfl ?_
        refine dg_L (pc' := 96) [(3, .int (x3 + (1 : Int32))), (2, .int (x2 ||| q1.1)), (0, .ref x0), (1, .int x1)] [] rfl (fun _ => rfl) rfl ?_
        refine dw_s (pc' := 72) [] rfl (fun _ => rfl) ?_
        exact dw_j rfl (fun lv1 hv => ih (x2 ||| q1.1) (x3 + (1 : Int32)) q1.2 lv1 (hv.1 _ rfl) (hv.2.1 _ rfl) (hv.2.2.1 _ rfl) (hv.2.2.2.1 _ rfl))
noncomputable def d_X4_readPlace_b58 (x0 : Nat) (x1 : Int32) (m : dc_M) : Option dc_M :=
  ((d_X4_takeSign x0 (62 : Int32) m).bind (fun q1 => ((d_X4_readEvent x0 (0 : Int32) q1).bind (fun q2 => (d_X4_readPlace_l72 x0 x1 q2.1 (0 : Int32) q2.2)))))
set_option maxHeartbeats 8000000 in
theorem k_X4_readPlace_b58 {N : Nat} {Φ : (Option dc_M) → Option Value → dc_M → Prop} (x0 : Nat) (x1 : Int32) (m : dc_M) (kR : ∀  (m : dc_M), Φ (some (m)) (none) m)  {lv : ab_L} (f0 : ab_lk lv 0 = some (.ref x0)) (f1 : ab_lk lv 1 = some (.int x1)) : dc_pv 3 N ab_M_X4_readPlace 58 lv [] m (Φ (d_X4_readPlace_b58 x0 x1 m)) := by
  refine dc_pv.mono (dc_ok (C := C_X4_readPlace) (S := S_X4_readPlace) CO_X4_readPlace 400 58 [(0, .ref x0), (1, .int x1)] lv [] m (dc_sub_cons f0 (dc_sub_cons f1 (dc_sub_nil))) ?_) (Nat.le_succ N)
  unfold d_X4_readPlace_b58
  refine dg_s (pc' := 59) [.ref x0] rfl (fun _ => rfl) rfl ?_
  refine dg_s (pc' := 61) [.int (62 : Int32), .ref x0] rfl (fun _ => rfl) rfl ?_
  refine dw_b (fun t => Φ t) (pc' := 64) (fun q1 => []) (fun q1 => q1) rfl (fun _ => rfl) (fun q1 => ?_)
  refine dw_g rfl ?_
  refine dg_s (pc' := 65) [.ref x0] rfl (fun _ => rfl) rfl ?_
  refine dg_s (pc' := 66) [.int (0 : Int32), .ref x0] rfl (fun _ => rfl) rfl ?_
  refine dw_b (fun t => Φ t) (pc' := 69) (fun q2 => [.int q2.1]) (fun q2 => q2.2) rfl (fun _ => rfl) (fun q2 => ?_)
  refine dw_g rfl ?_
  refine dg_L (pc' := 70) [(2, .int q2.1), (0, .ref x0), (1, .int x1)] [] rfl (fun _ => rfl) rfl ?_
  refine dg_s (pc' := 71) [.int (0 : Int32)] rfl (fun _ => rfl) rfl ?_
  refine dw_L (pc' := 72) [(3, .int (0 : Int32)), (2, .int q2.1), (0, .ref x0), (1, .int x1)] [] rfl (fun _ => rfl) ?_
  exact dw_j rfl (fun lv1 hv => k_X4_readPlace_l72 (Φ := (fun t => Φ t)) x0 x1 (fun _b => kR _b) N  q2.1 (0 : Int32) q2.2 lv1 (hv.1 _ rfl) (hv.2.1 _ rfl) (hv.2.2.1 _ rfl) (hv.2.2.2.1 _ rfl))
noncomputable def d_X4_readPlace_l31b (x0 : Nat) (x1 : Int32) (x2 : Int32) (m : dc_M) : Option ((Int32 × Int32 × dc_M) ⊕ dc_M) :=
  (if 16 < (Int32.toInt x2) then ((d_X4_readPlace_b58 x0 x1 m).map (fun z => Sum.inr (z))) else (if (Int32.toInt (d_X4_isLetter x0 m)) = 0 then ((d_X4_readPlace_b58 x0 x1 m).map (fun z => Sum.inr (z))) else ((d_X4_readEvent x0 x1 m).bind (fun q1 => some (Sum.inl ((x1 ||| q1.1), (x2 + (1 : Int32)), q1.2))))))
noncomputable def d_X4_readPlace_l31s (x0 : Nat) : (Int32 × Int32 × dc_M) → Option ((Int32 × Int32 × dc_M) ⊕ dc_M) := fun s => d_X4_readPlace_l31b x0 s.1 s.2.1 s.2.2
noncomputable def d_X4_readPlace_l31 (x0 : Nat) (x1 : Int32) (x2 : Int32) (m : dc_M) : Option dc_M := dc_lp (d_X4_readPlace_l31s x0) (x1, x2, m)
set_option maxHeartbeats 8000000 in
theorem k_X4_readPlace_l31 {Φ : (Option dc_M) → Option Value → dc_M → Prop} (x0 : Nat) (kR : ∀  (m : dc_M), Φ (some (m)) (none) m) : ∀ (N : Nat), ∀ (x1 : Int32) (x2 : Int32) (m : dc_M) (lv : ab_L), ab_lk lv 0 = some (.ref x0) → ab_lk lv 1 = some (.int x1) → ab_lk lv 2 = some (.int x2) → dc_pv 3 N ab_M_X4_readPlace 31 lv [] m (Φ (d_X4_readPlace_l31 x0 x1 x2 m)) := by
  intro N
  induction N with
  | zero => intros; exact dc_pv_zero
  | succ N ih =>
    intro x1 x2 m lv f0 f1 f2
    refine dc_ok (C := C_X4_readPlace) (S := S_X4_readPlace) CO_X4_readPlace 400 31 [(0, .ref x0), (1, .int x1), (2, .int x2)] lv [] m (dc_sub_cons f0 (dc_sub_cons f1 (dc_sub_cons f2 (dc_sub_nil)))) ?_
    unfold d_X4_readPlace_l31
    rw [dc_lp_eq]
    show (fun t x => dc_lf 3 N ab_M_X4_readPlace (Φ (Option.bind t (dc_bk (d_X4_readPlace_l31s x0)))) x) (d_X4_readPlace_l31b x0 x1 x2 m) _
    dsimp only
    unfold d_X4_readPlace_l31b
    refine dg_s (pc' := 32) [.int x2] rfl (fun _ => rfl) rfl ?_
    refine dg_s (pc' := 34) [.int (16 : Int32), .int x2] rfl (fun _ => rfl) rfl ?_
    refine dw_if (fun t => Φ (Option.bind t (dc_bk (d_X4_readPlace_l31s x0)))) (16 < (Int32.toInt x2)) [] 58 37 rfl (fun _ => rfl) (fun c0 => ?_) (fun c0 => ?_)
    · exact dw_j rfl (fun lv1 hv => k_X4_readPlace_b58 (Φ := (fun t => Φ (Option.bind (t.map (fun z => Sum.inr (z))) (dc_bk (d_X4_readPlace_l31s x0))))) x0 x1 m (fun _b => kR _b)  (hv.1 _ rfl) (hv.2.1 _ rfl))
    · refine dw_g rfl ?_
      refine dg_s (pc' := 38) [.ref x0] rfl (fun _ => rfl) rfl ?_
      refine dg_s (pc' := 41) [.int (d_X4_isLetter x0 m)] rfl (fun _ => rfl) rfl ?_
      refine dw_if (fun t => Φ (Option.bind t (dc_bk (d_X4_readPlace_l31s x0)))) ((Int32.toInt (d_X4_isLetter x0 m)) = 0) [] 58 44 rfl (fun _ => rfl) (fun c1 => ?_) (fun c1 => ?_)
      · exact dw_j rfl (fun lv1 hv => k_X4_readPlace_b58 (Φ := (fun t => Φ (Option.bind (t.map (fun z => Sum.inr (z))) (dc_bk (d_X4_readPlace_l31s x0))))) x0 x1 m (fun _b => kR _b)  (hv.1 _ rfl) (hv.2.1 _ rfl))
      · refine dw_g rfl ?_
        refine dg_s (pc' := 45) [.int x1] rfl (fun _ => rfl) rfl ?_
        refine dg_s (pc' := 46) [.ref x0, .int x1] rfl (fun _ => rfl) rfl ?_
        refine dg_s (pc' := 47) [.int x1, .ref x0, .int x1] rfl (fun _ => rfl) rfl ?_
        refine dw_b (fun t => Φ (Option.bind t (dc_bk (d_X4_readPlace_l31s x0)))) (pc' := 50) (fun q1 => [.int q1.1, .int x1]) (fun q1 => q1.2) rfl (fun _ => rfl) (fun q1 => ?_)
        refine dw_g rfl ?_
        refine dg_s (pc' := 51) [.int (x1 ||| q1.1)] rfl (fun _ => rfl) rfl ?_
        refine dg_L (pc' := 52) [(1, .int (x1 ||| q1.1)), (0, .ref x0), (2, .int x2)] [] rfl (fun _ => rfl) rfl ?_
        refine dg_L (pc' := 55) [(2, .int (x2 + (1 : Int32))), (1, .int (x1 ||| q1.1)), (0, .ref x0)] [] rfl (fun _ => rfl) rfl ?_
        refine dw_s (pc' := 31) [] rfl (fun _ => rfl) ?_
        exact dw_j rfl (fun lv1 hv => ih (x1 ||| q1.1) (x2 + (1 : Int32)) q1.2 lv1 (hv.1 _ rfl) (hv.2.1 _ rfl) (hv.2.2.1 _ rfl))
noncomputable def d_X4_readPlace (x0 : Nat) (m : dc_M) : Option dc_M :=
  (if (Int32.toInt (m.1 (m.2.2.1 x0 8) 2)) < 20 then ((d_X4_take x0 m).bind (fun q1 => (d_X4_readPlace_l31 x0 (0 : Int32) (0 : Int32) q1))) else (dc_let (d_X4_refuse x0 (6 : Int32) (m.1 x0 6) m) (fun q2 => some (q2))))
set_option maxHeartbeats 8000000 in
theorem k_X4_readPlace {N : Nat} {Φ : (Option dc_M) → Option Value → dc_M → Prop} (x0 : Nat) (m : dc_M) (kR : ∀  (m : dc_M), Φ (some (m)) (none) m)  {lv : ab_L} (f0 : ab_lk lv 0 = some (.ref x0)) : dc_pv 3 N ab_M_X4_readPlace 0 lv [] m (Φ (d_X4_readPlace x0 m)) := by
  refine dc_pv.mono (dc_ok (C := C_X4_readPlace) (S := S_X4_readPlace) CO_X4_readPlace 400 0 [(0, .ref x0)] lv [] m (dc_sub_cons f0 (dc_sub_nil)) ?_) (Nat.le_succ N)
  unfold d_X4_readPlace
  refine dg_s (pc' := 1) [.ref x0] rfl (fun _ => rfl) rfl ?_
  refine dg_s (pc' := 4) [.ref (m.2.2.1 x0 8)] rfl (fun _ => rfl) rfl ?_
  refine dg_s (pc' := 7) [.int (m.1 (m.2.2.1 x0 8) 2)] rfl (fun _ => rfl) rfl ?_
  refine dg_s (pc' := 9) [.int (20 : Int32), .int (m.1 (m.2.2.1 x0 8) 2)] rfl (fun _ => rfl) rfl ?_
  refine dw_if (fun t => Φ t) ((Int32.toInt (m.1 (m.2.2.1 x0 8) 2)) < 20) [] 23 12 rfl (fun _ => rfl) (fun c0 => ?_) (fun c0 => ?_)
  · refine dw_g rfl ?_
    refine dg_s (pc' := 24) [.ref x0] rfl (fun _ => rfl) rfl ?_
    refine dw_b (fun t => Φ t) (pc' := 27) (fun q1 => []) (fun q1 => q1) rfl (fun _ => rfl) (fun q1 => ?_)
    refine dw_g rfl ?_
    refine dg_s (pc' := 28) [.int (0 : Int32)] rfl (fun _ => rfl) rfl ?_
    refine dg_L (pc' := 29) [(1, .int (0 : Int32)), (0, .ref x0)] [] rfl (fun _ => rfl) rfl ?_
    refine dg_s (pc' := 30) [.int (0 : Int32)] rfl (fun _ => rfl) rfl ?_
    refine dw_L (pc' := 31) [(2, .int (0 : Int32)), (1, .int (0 : Int32)), (0, .ref x0)] [] rfl (fun _ => rfl) ?_
    exact dw_j rfl (fun lv1 hv => k_X4_readPlace_l31 (Φ := (fun t => Φ t)) x0 (fun _b => kR _b) N  (0 : Int32) (0 : Int32) q1 lv1 (hv.1 _ rfl) (hv.2.1 _ rfl) (hv.2.2.1 _ rfl))
  · refine dw_g rfl ?_
    refine dg_s (pc' := 13) [.ref x0] rfl (fun _ => rfl) rfl ?_
    refine dg_s (pc' := 15) [.int (6 : Int32), .ref x0] rfl (fun _ => rfl) rfl ?_
    refine dg_s (pc' := 16) [.ref x0, .int (6 : Int32), .ref x0] rfl (fun _ => rfl) rfl ?_
    refine dg_s (pc' := 19) [.int (m.1 x0 6), .int (6 : Int32), .ref x0] rfl (fun _ => rfl) rfl ?_
    refine dw_l (fun t => Φ t) (pc' := 22) (fun q2 => []) (fun q2 => q2) rfl (fun _ => rfl) (fun q2 => ?_)
    refine dw_g rfl ?_
    exact dw_r (some (.inl (none, q2))) rfl (fun _ => rfl) (kR _)
noncomputable def H_X4_readPlace : dc_H := fun As m k => match As with
  | [.ref x0] => (d_X4_readPlace x0 m).bind (fun q => k (none) q)
  | _ => dc_kz
theorem H_X4_readPlace_ok : dc_cok 3 50 H_X4_readPlace := fun M' hG N As m k P hz hP => by
  obtain rfl : ab_M_X4_readPlace = M' := Option.some.inj hG
  unfold H_X4_readPlace at hP
  split at hP
  · rename_i x0
    exact dc_pv.imp (k_X4_readPlace (Φ := fun (t : Option dc_M) r m' => P (t.bind (fun q => k (none) q)) → P (k r m')) x0 m (fun _ h => h) rfl) (fun r m' h => h hP)
  · exact absurd hP hz
def C_X3_addWire : List (Nat × dc_H) := []
theorem CO_X3_addWire {u : Nat} : dc_CO u C_X3_addWire := dc_CO_nil
def S_X3_addWire : List (Nat × List Nat) := []
def d_X3_addWire (x0 : Nat) (x1 : Int32) (x2 : Int32) (m : dc_M) : (Int32 × dc_M) :=
  (if (Int32.toInt (m.1 x0 0)) < 6 then (((dc_wi (dc_wi m (x0 + 1) (Int32.toNatClampNeg (m.1 x0 0)) x1) (x0 + 2) (Int32.toNatClampNeg ((dc_wi m (x0 + 1) (Int32.toNatClampNeg (m.1 x0 0)) x1).1 x0 0)) x2).1 x0 0), (dc_wi (dc_wi (dc_wi m (x0 + 1) (Int32.toNatClampNeg (m.1 x0 0)) x1) (x0 + 2) (Int32.toNatClampNeg ((dc_wi m (x0 + 1) (Int32.toNatClampNeg (m.1 x0 0)) x1).1 x0 0)) x2) x0 0 (((dc_wi (dc_wi m (x0 + 1) (Int32.toNatClampNeg (m.1 x0 0)) x1) (x0 + 2) (Int32.toNatClampNeg ((dc_wi m (x0 + 1) (Int32.toNatClampNeg (m.1 x0 0)) x1).1 x0 0)) x2).1 x0 0) + (1 : Int32)))) else ((-4 : Int32), m))
set_option maxHeartbeats 8000000 in
theorem k_X3_addWire {u : Nat} {N : Nat} {Φ : (Int32 × dc_M) → Option Value → dc_M → Prop} (x0 : Nat) (x1 : Int32) (x2 : Int32) (m : dc_M) (kR : ∀ (v : Int32) (m : dc_M), Φ ((v, m)) (some (.int v)) m)  {lv : ab_L} (f0 : ab_lk lv 0 = some (.ref x0)) (f1 : ab_lk lv 1 = some (.int x1)) (f2 : ab_lk lv 2 = some (.int x2)) : dc_pv u N ab_M_X3_addWire 0 lv [] m (Φ (d_X3_addWire x0 x1 x2 m)) := by
  refine dc_pv.mono (dc_ok (C := C_X3_addWire) (S := S_X3_addWire) CO_X3_addWire 400 0 [(0, .ref x0), (1, .int x1), (2, .int x2)] lv [] m (dc_sub_cons f0 (dc_sub_cons f1 (dc_sub_cons f2 (dc_sub_nil)))) ?_) (Nat.le_succ N)
  unfold d_X3_addWire
  refine dg_s (pc' := 1) [.ref x0] rfl (fun _ => rfl) rfl ?_
  refine dg_s (pc' := 4) [.int (m.1 x0 0)] rfl (fun _ => rfl) rfl ?_
  refine dg_s (pc' := 6) [.int (6 : Int32), .int (m.1 x0 0)] rfl (fun _ => rfl) rfl ?_
  refine dw_if (fun t => Φ t) ((Int32.toInt (m.1 x0 0)) < 6) [] 12 9 rfl (fun _ => rfl) (fun c0 => ?_) (fun c0 => ?_)
  · refine dw_g rfl ?_
    refine dg_s (pc' := 13) [.ref x0] rfl (fun _ => rfl) rfl ?_
    refine dg_s (pc' := 16) [.ref (x0 + 1)] rfl (fun _ => rfl) rfl ?_
    refine dg_s (pc' := 17) [.ref x0, .ref (x0 + 1)] rfl (fun _ => rfl) rfl ?_
    refine dg_s (pc' := 20) [.int (m.1 x0 0), .ref (x0 + 1)] rfl (fun _ => rfl) rfl ?_
    refine dg_s (pc' := 21) [.int x1, .int (m.1 x0 0), .ref (x0 + 1)] rfl (fun _ => rfl) rfl ?_
    refine dg_m (pc' := 22) (dc_wi m (x0 + 1) (Int32.toNatClampNeg (m.1 x0 0)) x1) [] rfl (fun _ => rfl) rfl ?_
    refine dg_s (pc' := 23) [.ref x0] rfl (fun _ => rfl) rfl ?_
    refine dg_s (pc' := 26) [.ref (x0 + 2)] rfl (fun _ => rfl) rfl ?_
    refine dg_s (pc' := 27) [.ref x0, .ref (x0 + 2)] rfl (fun _ => rfl) rfl ?_
    refine dg_s (pc' := 30) [.int ((dc_wi m (x0 + 1) (Int32.toNatClampNeg (m.1 x0 0)) x1).1 x0 0), .ref (x0 + 2)] rfl (fun _ => rfl) rfl ?_
    refine dg_s (pc' := 31) [.int x2, .int ((dc_wi m (x0 + 1) (Int32.toNatClampNeg (m.1 x0 0)) x1).1 x0 0), .ref (x0 + 2)] rfl (fun _ => rfl) rfl ?_
    refine dg_m (pc' := 32) (dc_wi (dc_wi m (x0 + 1) (Int32.toNatClampNeg (m.1 x0 0)) x1) (x0 + 2) (Int32.toNatClampNeg ((dc_wi m (x0 + 1) (Int32.toNatClampNeg (m.1 x0 0)) x1).1 x0 0)) x2) [] rfl (fun _ => rfl) rfl ?_
    refine dg_s (pc' := 33) [.ref x0] rfl (fun _ => rfl) rfl ?_
    refine dg_s (pc' := 34) [.ref x0, .ref x0] rfl (fun _ => rfl) rfl ?_
    refine dg_s (pc' := 37) [.int ((dc_wi (dc_wi m (x0 + 1) (Int32.toNatClampNeg (m.1 x0 0)) x1) (x0 + 2) (Int32.toNatClampNeg ((dc_wi m (x0 + 1) (Int32.toNatClampNeg (m.1 x0 0)) x1).1 x0 0)) x2).1 x0 0), .ref x0] rfl (fun _ => rfl) rfl ?_
    refine dg_s (pc' := 38) [.int ((dc_wi (dc_wi m (x0 + 1) (Int32.toNatClampNeg (m.1 x0 0)) x1) (x0 + 2) (Int32.toNatClampNeg ((dc_wi m (x0 + 1) (Int32.toNatClampNeg (m.1 x0 0)) x1).1 x0 0)) x2).1 x0 0), .ref x0, .int ((dc_wi (dc_wi m (x0 + 1) (Int32.toNatClampNeg (m.1 x0 0)) x1) (x0 + 2) (Int32.toNatClampNeg ((dc_wi m (x0 + 1) (Int32.toNatClampNeg (m.1 x0 0)) x1).1 x0 0)) x2).1 x0 0)] rfl (fun _ => rfl) rfl ?_
    refine dg_s (pc' := 39) [.int (1 : Int32), .int ((dc_wi (dc_wi m (x0 + 1) (Int32.toNatClampNeg (m.1 x0 0)) x1) (x0 + 2) (Int32.toNatClampNeg ((dc_wi m (x0 + 1) (Int32.toNatClampNeg (m.1 x0 0)) x1).1 x0 0)) x2).1 x0 0), .ref x0, .int ((dc_wi (dc_wi m (x0 + 1) (Int32.toNatClampNeg (m.1 x0 0)) x1) (x0 + 2) (Int32.toNatClampNeg ((dc_wi m (x0 + 1) (Int32.toNatClampNeg (m.1 x0 0)) x1).1 x0 0)) x2).1 x0 0)] rfl (fun _ => rfl) rfl ?_
    refine dg_s (pc' := 40) [.int (((dc_wi (dc_wi m (x0 + 1) (Int32.toNatClampNeg (m.1 x0 0)) x1) (x0 + 2) (Int32.toNatClampNeg ((dc_wi m (x0 + 1) (Int32.toNatClampNeg (m.1 x0 0)) x1).1 x0 0)) x2).1 x0 0) + (1 : Int32)), .ref x0, .int ((dc_wi (dc_wi m (x0 + 1) (Int32.toNatClampNeg (m.1 x0 0)) x1) (x0 + 2) (Int32.toNatClampNeg ((dc_wi m (x0 + 1) (Int32.toNatClampNeg (m.1 x0 0)) x1).1 x0 0)) x2).1 x0 0)] rfl (fun _ => rfl) rfl ?_
    refine dg_m (pc' := 43) (dc_wi (dc_wi (dc_wi m (x0 + 1) (Int32.toNatClampNeg (m.1 x0 0)) x1) (x0 + 2) (Int32.toNatClampNeg ((dc_wi m (x0 + 1) (Int32.toNatClampNeg (m.1 x0 0)) x1).1 x0 0)) x2) x0 0 (((dc_wi (dc_wi m (x0 + 1) (Int32.toNatClampNeg (m.1 x0 0)) x1) (x0 + 2) (Int32.toNatClampNeg ((dc_wi m (x0 + 1) (Int32.toNatClampNeg (m.1 x0 0)) x1).1 x0 0)) x2).1 x0 0) + (1 : Int32))) [.int ((dc_wi (dc_wi m (x0 + 1) (Int32.toNatClampNeg (m.1 x0 0)) x1) (x0 + 2) (Int32.toNatClampNeg ((dc_wi m (x0 + 1) (Int32.toNatClampNeg (m.1 x0 0)) x1).1 x0 0)) x2).1 x0 0)] rfl (fun _ => rfl) rfl ?_
    exact dw_r (some (.inl (some (.int ((dc_wi (dc_wi m (x0 + 1) (Int32.toNatClampNeg (m.1 x0 0)) x1) (x0 + 2) (Int32.toNatClampNeg ((dc_wi m (x0 + 1) (Int32.toNatClampNeg (m.1 x0 0)) x1).1 x0 0)) x2).1 x0 0)), (dc_wi (dc_wi (dc_wi m (x0 + 1) (Int32.toNatClampNeg (m.1 x0 0)) x1) (x0 + 2) (Int32.toNatClampNeg ((dc_wi m (x0 + 1) (Int32.toNatClampNeg (m.1 x0 0)) x1).1 x0 0)) x2) x0 0 (((dc_wi (dc_wi m (x0 + 1) (Int32.toNatClampNeg (m.1 x0 0)) x1) (x0 + 2) (Int32.toNatClampNeg ((dc_wi m (x0 + 1) (Int32.toNatClampNeg (m.1 x0 0)) x1).1 x0 0)) x2).1 x0 0) + (1 : Int32)))))) rfl (fun _ => rfl) (kR _ _)
  · refine dw_g rfl ?_
    refine dg_s (pc' := 11) [.int (-4 : Int32)] rfl (fun _ => rfl) rfl ?_
    exact dw_r (some (.inl (some (.int (-4 : Int32)), m))) rfl (fun _ => rfl) (kR _ _)
def H_X3_addWire : dc_H := fun As m k => match As with
  | [.ref x0, .int x1, .int x2] => dc_let (d_X3_addWire x0 x1 x2 m) (fun q => k (some (.int q.1)) q.2)
  | _ => dc_kz
theorem H_X3_addWire_ok {u : Nat} : dc_cok u 33 H_X3_addWire := fun M' hG N As m k P hz hP => by
  obtain rfl : ab_M_X3_addWire = M' := Option.some.inj hG
  unfold H_X3_addWire at hP
  split at hP
  · rename_i x0 x1 x2
    exact dc_pv.imp (k_X3_addWire (Φ := fun (t : (Int32 × dc_M)) r m' => P (dc_let t (fun q => k (some (.int q.1)) q.2)) → P (k r m')) x0 x1 x2 m (fun _ _ h => h) rfl rfl rfl) (fun r m' h => h hP)
  · exact absurd hP hz
noncomputable def C_X4_readWire : List (Nat × dc_H) := [(33, H_X3_addWire), (31, H_X3_wireCalled), (57, H_X4_isLetter), (56, H_X4_refuse), (55, H_X4_take), (54, H_X4_takeSign)]
theorem CO_X4_readWire : dc_CO 3 C_X4_readWire := dc_CO_cons H_X3_addWire_ok (dc_CO_cons H_X3_wireCalled_ok (dc_CO_cons H_X4_isLetter_ok (dc_CO_cons H_X4_refuse_ok (dc_CO_cons H_X4_take_ok (dc_CO_cons H_X4_takeSign_ok (dc_CO_nil))))))
def S_X4_readWire : List (Nat × List Nat) := []
noncomputable def d_X4_readWire (x0 : Nat) (x1 : Int32) (m : dc_M) : Option dc_M :=
  (if (Int32.toInt (m.1 (m.2.2.1 x0 8) 0)) < 6 then ((d_X4_take x0 m).bind (fun q1 => (if ¬ (Int32.toInt (d_X4_isLetter x0 q1)) = 0 then ((d_X3_wireCalled (q1.2.2.1 x0 8) ((q1.1 x0 7) - (97 : Int32)) q1).bind (fun q2 => (if (Int32.toInt q2) < 0 then (dc_let (d_X3_addWire (q1.2.2.1 x0 8) ((q1.1 x0 7) - (97 : Int32)) x1 q1) (fun q3 => ((d_X4_take x0 q3.2).bind (fun q4 => ((d_X4_takeSign x0 (59 : Int32) q4).bind (fun q5 => some (q5))))))) else (dc_let (d_X4_refuse x0 (4 : Int32) (q1.1 x0 6) q1) (fun q6 => some (q6)))))) else (dc_let (d_X4_refuse x0 (2 : Int32) (q1.1 x0 6) q1) (fun q7 => some (q7)))))) else (dc_let (d_X4_refuse x0 (6 : Int32) (m.1 x0 6) m) (fun q8 => some (q8))))
set_option maxHeartbeats 8000000 in
theorem k_X4_readWire {N : Nat} {Φ : (Option dc_M) → Option Value → dc_M → Prop} (x0 : Nat) (x1 : Int32) (m : dc_M) (kR : ∀  (m : dc_M), Φ (some (m)) (none) m)  {lv : ab_L} (f0 : ab_lk lv 0 = some (.ref x0)) (f1 : ab_lk lv 1 = some (.int x1)) : dc_pv 3 N ab_M_X4_readWire 0 lv [] m (Φ (d_X4_readWire x0 x1 m)) := by
  refine dc_pv.mono (dc_ok (C := C_X4_readWire) (S := S_X4_readWire) CO_X4_readWire 400 0 [(0, .ref x0), (1, .int x1)] lv [] m (dc_sub_cons f0 (dc_sub_cons f1 (dc_sub_nil))) ?_) (Nat.le_succ N)
  unfold d_X4_readWire
  refine dg_s (pc' := 1) [.ref x0] rfl (fun _ => rfl) rfl ?_
  refine dg_s (pc' := 4) [.ref (m.2.2.1 x0 8)] rfl (fun _ => rfl) rfl ?_
  refine dg_s (pc' := 7) [.int (m.1 (m.2.2.1 x0 8) 0)] rfl (fun _ => rfl) rfl ?_
  refine dg_s (pc' := 9) [.int (6 : Int32), .int (m.1 (m.2.2.1 x0 8) 0)] rfl (fun _ => rfl) rfl ?_
  refine dw_if (fun t => Φ t) ((Int32.toInt (m.1 (m.2.2.1 x0 8) 0)) < 6) [] 23 12 rfl (fun _ => rfl) (fun c0 => ?_) (fun c0 => ?_)
  · refine dw_g rfl ?_
    refine dg_s (pc' := 24) [.ref x0] rfl (fun _ => rfl) rfl ?_
    refine dw_b (fun t => Φ t) (pc' := 27) (fun q1 => []) (fun q1 => q1) rfl (fun _ => rfl) (fun q1 => ?_)
    refine dw_g rfl ?_
    refine dg_s (pc' := 28) [.ref x0] rfl (fun _ => rfl) rfl ?_
    refine dg_s (pc' := 31) [.int (d_X4_isLetter x0 q1)] rfl (fun _ => rfl) rfl ?_
    refine dw_if (fun t => Φ t) (¬ (Int32.toInt (d_X4_isLetter x0 q1)) = 0) [] 46 34 rfl (fun _ => rfl) (fun c1 => ?_) (fun c1 => ?_)
    · refine dw_g rfl ?_
      refine dg_s (pc' := 47) [.ref x0] rfl (fun _ => rfl) rfl ?_
      refine dg_s (pc' := 50) [.ref (q1.2.2.1 x0 8)] rfl (fun _ => rfl) rfl ?_
      refine dg_s (pc' := 51) [.ref x0, .ref (q1.2.2.1 x0 8)] rfl (fun _ => rfl) rfl ?_
      refine dg_s (pc' := 54) [.int (q1.1 x0 7), .ref (q1.2.2.1 x0 8)] rfl (fun _ => rfl) rfl ?_
      refine dg_s (pc' := 56) [.int (97 : Int32), .int (q1.1 x0 7), .ref (q1.2.2.1 x0 8)] rfl (fun _ => rfl) rfl ?_
      refine dg_s (pc' := 57) [.int ((q1.1 x0 7) - (97 : Int32)), .ref (q1.2.2.1 x0 8)] rfl (fun _ => rfl) rfl ?_
      refine dw_b (fun t => Φ t) (pc' := 60) (fun q2 => [.int q2]) (fun q2 => q1) rfl (fun _ => rfl) (fun q2 => ?_)
      refine dw_g rfl ?_
      refine dw_if (fun t => Φ t) ((Int32.toInt q2) < 0) [] 75 63 rfl (fun _ => rfl) (fun c2 => ?_) (fun c2 => ?_)
      · refine dw_g rfl ?_
        refine dg_s (pc' := 76) [.ref x0] rfl (fun _ => rfl) rfl ?_
        refine dg_s (pc' := 79) [.ref (q1.2.2.1 x0 8)] rfl (fun _ => rfl) rfl ?_
        refine dg_s (pc' := 80) [.ref x0, .ref (q1.2.2.1 x0 8)] rfl (fun _ => rfl) rfl ?_
        refine dg_s (pc' := 83) [.int (q1.1 x0 7), .ref (q1.2.2.1 x0 8)] rfl (fun _ => rfl) rfl ?_
        refine dg_s (pc' := 85) [.int (97 : Int32), .int (q1.1 x0 7), .ref (q1.2.2.1 x0 8)] rfl (fun _ => rfl) rfl ?_
        refine dg_s (pc' := 86) [.int ((q1.1 x0 7) - (97 : Int32)), .ref (q1.2.2.1 x0 8)] rfl (fun _ => rfl) rfl ?_
        refine dg_s (pc' := 87) [.int x1, .int ((q1.1 x0 7) - (97 : Int32)), .ref (q1.2.2.1 x0 8)] rfl (fun _ => rfl) rfl ?_
        refine dw_l (fun t => Φ t) (pc' := 90) (fun q3 => [.int q3.1]) (fun q3 => q3.2) rfl (fun _ => rfl) (fun q3 => ?_)
        refine dw_g rfl ?_
        refine dg_s (pc' := 91) [] rfl (fun _ => rfl) rfl ?_
        refine dg_s (pc' := 92) [.ref x0] rfl (fun _ => rfl) rfl ?_
        refine dw_b (fun t => Φ t) (pc' := 95) (fun q4 => []) (fun q4 => q4) rfl (fun _ => rfl) (fun q4 => ?_)
        refine dw_g rfl ?_
        refine dg_s (pc' := 96) [.ref x0] rfl (fun _ => rfl) rfl ?_
        refine dg_s (pc' := 98) [.int (59 : Int32), .ref x0] rfl (fun _ => rfl) rfl ?_
        refine dw_b (fun t => Φ t) (pc' := 101) (fun q5 => []) (fun q5 => q5) rfl (fun _ => rfl) (fun q5 => ?_)
        refine dw_g rfl ?_
        exact dw_r (some (.inl (none, q5))) rfl (fun _ => rfl) (kR _)
      · refine dw_g rfl ?_
        refine dg_s (pc' := 64) [.ref x0] rfl (fun _ => rfl) rfl ?_
        refine dg_s (pc' := 65) [.int (4 : Int32), .ref x0] rfl (fun _ => rfl) rfl ?_
        refine dg_s (pc' := 66) [.ref x0, .int (4 : Int32), .ref x0] rfl (fun _ => rfl) rfl ?_
        refine dg_s (pc' := 69) [.int (q1.1 x0 6), .int (4 : Int32), .ref x0] rfl (fun _ => rfl) rfl ?_
        refine dw_l (fun t => Φ t) (pc' := 72) (fun q6 => []) (fun q6 => q6) rfl (fun _ => rfl) (fun q6 => ?_)
        refine dw_g rfl ?_
        refine dg_s (pc' := 101) [] rfl (fun _ => rfl) rfl ?_
        exact dw_r (some (.inl (none, q6))) rfl (fun _ => rfl) (kR _)
    · refine dw_g rfl ?_
      refine dg_s (pc' := 35) [.ref x0] rfl (fun _ => rfl) rfl ?_
      refine dg_s (pc' := 36) [.int (2 : Int32), .ref x0] rfl (fun _ => rfl) rfl ?_
      refine dg_s (pc' := 37) [.ref x0, .int (2 : Int32), .ref x0] rfl (fun _ => rfl) rfl ?_
      refine dg_s (pc' := 40) [.int (q1.1 x0 6), .int (2 : Int32), .ref x0] rfl (fun _ => rfl) rfl ?_
      refine dw_l (fun t => Φ t) (pc' := 43) (fun q7 => []) (fun q7 => q7) rfl (fun _ => rfl) (fun q7 => ?_)
      refine dw_g rfl ?_
      refine dg_s (pc' := 101) [] rfl (fun _ => rfl) rfl ?_
      exact dw_r (some (.inl (none, q7))) rfl (fun _ => rfl) (kR _)
  · refine dw_g rfl ?_
    refine dg_s (pc' := 13) [.ref x0] rfl (fun _ => rfl) rfl ?_
    refine dg_s (pc' := 15) [.int (6 : Int32), .ref x0] rfl (fun _ => rfl) rfl ?_
    refine dg_s (pc' := 16) [.ref x0, .int (6 : Int32), .ref x0] rfl (fun _ => rfl) rfl ?_
    refine dg_s (pc' := 19) [.int (m.1 x0 6), .int (6 : Int32), .ref x0] rfl (fun _ => rfl) rfl ?_
    refine dw_l (fun t => Φ t) (pc' := 22) (fun q8 => []) (fun q8 => q8) rfl (fun _ => rfl) (fun q8 => ?_)
    refine dw_g rfl ?_
    exact dw_r (some (.inl (none, q8))) rfl (fun _ => rfl) (kR _)
noncomputable def H_X4_readWire : dc_H := fun As m k => match As with
  | [.ref x0, .int x1] => (d_X4_readWire x0 x1 m).bind (fun q => k (none) q)
  | _ => dc_kz
theorem H_X4_readWire_ok : dc_cok 3 49 H_X4_readWire := fun M' hG N As m k P hz hP => by
  obtain rfl : ab_M_X4_readWire = M' := Option.some.inj hG
  unfold H_X4_readWire at hP
  split at hP
  · rename_i x0 x1
    exact dc_pv.imp (k_X4_readWire (Φ := fun (t : Option dc_M) r m' => P (t.bind (fun q => k (none) q)) → P (k r m')) x0 x1 m (fun _ h => h) rfl rfl) (fun r m' h => h hP)
  · exact absurd hP hz
noncomputable def C_X4_readLine : List (Nat × dc_H) := [(59, H_X4_isWord), (50, H_X4_readPlace), (49, H_X4_readWire), (56, H_X4_refuse)]
theorem CO_X4_readLine : dc_CO 3 C_X4_readLine := dc_CO_cons H_X4_isWord_ok (dc_CO_cons H_X4_readPlace_ok (dc_CO_cons H_X4_readWire_ok (dc_CO_cons H_X4_refuse_ok (dc_CO_nil))))
def S_X4_readLine : List (Nat × List Nat) := []
noncomputable def d_X4_readLine (x0 : Nat) (m : dc_M) : Option dc_M :=
  ((d_X4_isWord x0 1 m).bind (fun q1 => (if (Int32.toInt q1) = 0 then ((d_X4_isWord x0 2 m).bind (fun q2 => (if (Int32.toInt q2) = 0 then ((d_X4_isWord x0 3 m).bind (fun q3 => (if (Int32.toInt q3) = 0 then ((d_X4_isWord x0 4 m).bind (fun q4 => (if (Int32.toInt q4) = 0 then (dc_let (d_X4_refuse x0 (2 : Int32) (m.1 x0 6) m) (fun q5 => some (q5))) else ((d_X4_readPlace x0 m).bind (fun q6 => some (q6)))))) else ((d_X4_readWire x0 (2 : Int32) m).bind (fun q7 => some (q7)))))) else ((d_X4_readWire x0 (1 : Int32) m).bind (fun q8 => some (q8)))))) else ((d_X4_readWire x0 (0 : Int32) m).bind (fun q9 => some (q9))))))
set_option maxHeartbeats 8000000 in
theorem k_X4_readLine {N : Nat} {Φ : (Option dc_M) → Option Value → dc_M → Prop} (x0 : Nat) (m : dc_M) (kR : ∀  (m : dc_M), Φ (some (m)) (none) m)  {lv : ab_L} (f0 : ab_lk lv 0 = some (.ref x0)) : dc_pv 3 N ab_M_X4_readLine 0 lv [] m (Φ (d_X4_readLine x0 m)) := by
  refine dc_pv.mono (dc_ok (C := C_X4_readLine) (S := S_X4_readLine) CO_X4_readLine 400 0 [(0, .ref x0)] lv [] m (dc_sub_cons f0 (dc_sub_nil)) ?_) (Nat.le_succ N)
  unfold d_X4_readLine
  refine dg_s (pc' := 1) [.ref x0] rfl (fun _ => rfl) rfl ?_
  refine dg_s (pc' := 3) [.retAddr 1, .ref x0] rfl (fun _ => rfl) rfl ?_
  refine dw_b (fun t => Φ t) (pc' := 6) (fun q1 => [.int q1]) (fun q1 => m) rfl (fun _ => rfl) (fun q1 => ?_)
  refine dw_g rfl ?_
  refine dw_if (fun t => Φ t) ((Int32.toInt q1) = 0) [] 17 9 rfl (fun _ => rfl) (fun c0 => ?_) (fun c0 => ?_)
  · refine dw_g rfl ?_
    refine dg_s (pc' := 18) [.ref x0] rfl (fun _ => rfl) rfl ?_
    refine dg_s (pc' := 20) [.retAddr 2, .ref x0] rfl (fun _ => rfl) rfl ?_
    refine dw_b (fun t => Φ t) (pc' := 23) (fun q2 => [.int q2]) (fun q2 => m) rfl (fun _ => rfl) (fun q2 => ?_)
    refine dw_g rfl ?_
    refine dw_if (fun t => Φ t) ((Int32.toInt q2) = 0) [] 34 26 rfl (fun _ => rfl) (fun c1 => ?_) (fun c1 => ?_)
    · refine dw_g rfl ?_
      refine dg_s (pc' := 35) [.ref x0] rfl (fun _ => rfl) rfl ?_
      refine dg_s (pc' := 37) [.retAddr 3, .ref x0] rfl (fun _ => rfl) rfl ?_
      refine dw_b (fun t => Φ t) (pc' := 40) (fun q3 => [.int q3]) (fun q3 => m) rfl (fun _ => rfl) (fun q3 => ?_)
      refine dw_g rfl ?_
      refine dw_if (fun t => Φ t) ((Int32.toInt q3) = 0) [] 51 43 rfl (fun _ => rfl) (fun c2 => ?_) (fun c2 => ?_)
      · refine dw_g rfl ?_
        refine dg_s (pc' := 52) [.ref x0] rfl (fun _ => rfl) rfl ?_
        refine dg_s (pc' := 54) [.retAddr 4, .ref x0] rfl (fun _ => rfl) rfl ?_
        refine dw_b (fun t => Φ t) (pc' := 57) (fun q4 => [.int q4]) (fun q4 => m) rfl (fun _ => rfl) (fun q4 => ?_)
        refine dw_g rfl ?_
        refine dw_if (fun t => Φ t) ((Int32.toInt q4) = 0) [] 67 60 rfl (fun _ => rfl) (fun c3 => ?_) (fun c3 => ?_)
        · refine dw_g rfl ?_
          refine dg_s (pc' := 68) [.ref x0] rfl (fun _ => rfl) rfl ?_
          refine dg_s (pc' := 69) [.int (2 : Int32), .ref x0] rfl (fun _ => rfl) rfl ?_
          refine dg_s (pc' := 70) [.ref x0, .int (2 : Int32), .ref x0] rfl (fun _ => rfl) rfl ?_
          refine dg_s (pc' := 73) [.int (m.1 x0 6), .int (2 : Int32), .ref x0] rfl (fun _ => rfl) rfl ?_
          refine dw_l (fun t => Φ t) (pc' := 76) (fun q5 => []) (fun q5 => q5) rfl (fun _ => rfl) (fun q5 => ?_)
          refine dw_g rfl ?_
          exact dw_r (some (.inl (none, q5))) rfl (fun _ => rfl) (kR _)
        · refine dw_g rfl ?_
          refine dg_s (pc' := 61) [.ref x0] rfl (fun _ => rfl) rfl ?_
          refine dw_b (fun t => Φ t) (pc' := 64) (fun q6 => []) (fun q6 => q6) rfl (fun _ => rfl) (fun q6 => ?_)
          refine dw_g rfl ?_
          refine dg_s (pc' := 76) [] rfl (fun _ => rfl) rfl ?_
          exact dw_r (some (.inl (none, q6))) rfl (fun _ => rfl) (kR _)
      · refine dw_g rfl ?_
        refine dg_s (pc' := 44) [.ref x0] rfl (fun _ => rfl) rfl ?_
        refine dg_s (pc' := 45) [.int (2 : Int32), .ref x0] rfl (fun _ => rfl) rfl ?_
        refine dw_b (fun t => Φ t) (pc' := 48) (fun q7 => []) (fun q7 => q7) rfl (fun _ => rfl) (fun q7 => ?_)
        refine dw_g rfl ?_
        refine dg_s (pc' := 76) [] rfl (fun _ => rfl) rfl ?_
        exact dw_r (some (.inl (none, q7))) rfl (fun _ => rfl) (kR _)
    · refine dw_g rfl ?_
      refine dg_s (pc' := 27) [.ref x0] rfl (fun _ => rfl) rfl ?_
      refine dg_s (pc' := 28) [.int (1 : Int32), .ref x0] rfl (fun _ => rfl) rfl ?_
      refine dw_b (fun t => Φ t) (pc' := 31) (fun q8 => []) (fun q8 => q8) rfl (fun _ => rfl) (fun q8 => ?_)
      refine dw_g rfl ?_
      refine dg_s (pc' := 76) [] rfl (fun _ => rfl) rfl ?_
      exact dw_r (some (.inl (none, q8))) rfl (fun _ => rfl) (kR _)
  · refine dw_g rfl ?_
    refine dg_s (pc' := 10) [.ref x0] rfl (fun _ => rfl) rfl ?_
    refine dg_s (pc' := 11) [.int (0 : Int32), .ref x0] rfl (fun _ => rfl) rfl ?_
    refine dw_b (fun t => Φ t) (pc' := 14) (fun q9 => []) (fun q9 => q9) rfl (fun _ => rfl) (fun q9 => ?_)
    refine dw_g rfl ?_
    refine dg_s (pc' := 76) [] rfl (fun _ => rfl) rfl ?_
    exact dw_r (some (.inl (none, q9))) rfl (fun _ => rfl) (kR _)
noncomputable def H_X4_readLine : dc_H := fun As m k => match As with
  | [.ref x0] => (d_X4_readLine x0 m).bind (fun q => k (none) q)
  | _ => dc_kz
theorem H_X4_readLine_ok : dc_cok 3 48 H_X4_readLine := fun M' hG N As m k P hz hP => by
  obtain rfl : ab_M_X4_readLine = M' := Option.some.inj hG
  unfold H_X4_readLine at hP
  split at hP
  · rename_i x0
    exact dc_pv.imp (k_X4_readLine (Φ := fun (t : Option dc_M) r m' => P (t.bind (fun q => k (none) q)) → P (k r m')) x0 m (fun _ h => h) rfl) (fun r m' h => h hP)
  · exact absurd hP hz
noncomputable def C_X4_readInto : List (Nat × dc_H) := [(23, H_X3_clear), (48, H_X4_readLine), (55, H_X4_take)]
theorem CO_X4_readInto : dc_CO 3 C_X4_readInto := dc_CO_cons H_X3_clear_ok (dc_CO_cons H_X4_readLine_ok (dc_CO_cons H_X4_take_ok (dc_CO_nil)))
def S_X4_readInto : List (Nat × List Nat) := [(5, [0]), (33, [0, 2]), (64, [0])]
noncomputable def d_X4_readInto_b64 (x0 : Nat) (m : dc_M) : Option (Int32 × dc_M) :=
  (if ¬ (Int32.toInt (m.1 x0 2)) = 0 then some (((0 : Int32), m)) else some (((1 : Int32), m)))
set_option maxHeartbeats 8000000 in
theorem k_X4_readInto_b64 {N : Nat} {Φ : (Option (Int32 × dc_M)) → Option Value → dc_M → Prop} (x0 : Nat) (m : dc_M) (kR : ∀ (v : Int32) (m : dc_M), Φ (some ((v, m))) (some (.int v)) m)  {lv : ab_L} (f0 : ab_lk lv 0 = some (.ref x0)) : dc_pv 3 N ab_M_X4_readInto 64 lv [] m (Φ (d_X4_readInto_b64 x0 m)) := by
  refine dc_pv.mono (dc_ok (C := C_X4_readInto) (S := S_X4_readInto) CO_X4_readInto 400 64 [(0, .ref x0)] lv [] m (dc_sub_cons f0 (dc_sub_nil)) ?_) (Nat.le_succ N)
  unfold d_X4_readInto_b64
  refine dg_s (pc' := 65) [.ref x0] rfl (fun _ => rfl) rfl ?_
  refine dg_s (pc' := 68) [.int (m.1 x0 2)] rfl (fun _ => rfl) rfl ?_
  refine dw_if (fun t => Φ t) (¬ (Int32.toInt (m.1 x0 2)) = 0) [] 75 71 rfl (fun _ => rfl) (fun c0 => ?_) (fun c0 => ?_)
  · refine dw_g rfl ?_
    refine dg_s (pc' := 76) [.int (0 : Int32)] rfl (fun _ => rfl) rfl ?_
    exact dw_r (some (.inl (some (.int (0 : Int32)), m))) rfl (fun _ => rfl) (kR _ _)
  · refine dw_g rfl ?_
    refine dg_s (pc' := 72) [.int (1 : Int32)] rfl (fun _ => rfl) rfl ?_
    refine dg_s (pc' := 76) [.int (1 : Int32)] rfl (fun _ => rfl) rfl ?_
    exact dw_r (some (.inl (some (.int (1 : Int32)), m))) rfl (fun _ => rfl) (kR _ _)
noncomputable def d_X4_readInto_l33b (x0 : Nat) (x2 : Int32) (m : dc_M) : Option ((Int32 × dc_M) ⊕ (Int32 × dc_M)) :=
  (if 240 ≤ (Int32.toInt x2) then ((d_X4_readInto_b64 x0 m).map (fun z => Sum.inr (z))) else (if ¬ (Int32.toInt (m.1 x0 2)) = 0 then ((d_X4_readInto_b64 x0 m).map (fun z => Sum.inr (z))) else (if (Int32.toInt (m.1 x0 5)) = 0 then ((d_X4_readInto_b64 x0 m).map (fun z => Sum.inr (z))) else ((d_X4_readLine x0 m).bind (fun q1 => some (Sum.inl ((x2 + (1 : Int32)), q1)))))))
noncomputable def d_X4_readInto_l33s (x0 : Nat) : (Int32 × dc_M) → Option ((Int32 × dc_M) ⊕ (Int32 × dc_M)) := fun s => d_X4_readInto_l33b x0 s.1 s.2
noncomputable def d_X4_readInto_l33 (x0 : Nat) (x2 : Int32) (m : dc_M) : Option (Int32 × dc_M) := dc_lp (d_X4_readInto_l33s x0) (x2, m)
set_option maxHeartbeats 8000000 in
theorem k_X4_readInto_l33 {Φ : (Option (Int32 × dc_M)) → Option Value → dc_M → Prop} (x0 : Nat) (kR : ∀ (v : Int32) (m : dc_M), Φ (some ((v, m))) (some (.int v)) m) : ∀ (N : Nat), ∀ (x2 : Int32) (m : dc_M) (lv : ab_L), ab_lk lv 0 = some (.ref x0) → ab_lk lv 2 = some (.int x2) → dc_pv 3 N ab_M_X4_readInto 33 lv [] m (Φ (d_X4_readInto_l33 x0 x2 m)) := by
  intro N
  induction N with
  | zero => intros; exact dc_pv_zero
  | succ N ih =>
    intro x2 m lv f0 f2
    refine dc_ok (C := C_X4_readInto) (S := S_X4_readInto) CO_X4_readInto 400 33 [(0, .ref x0), (2, .int x2)] lv [] m (dc_sub_cons f0 (dc_sub_cons f2 (dc_sub_nil))) ?_
    unfold d_X4_readInto_l33
    rw [dc_lp_eq]
    show (fun t x => dc_lf 3 N ab_M_X4_readInto (Φ (Option.bind t (dc_bk (d_X4_readInto_l33s x0)))) x) (d_X4_readInto_l33b x0 x2 m) _
    dsimp only
    unfold d_X4_readInto_l33b
    refine dg_s (pc' := 34) [.int x2] rfl (fun _ => rfl) rfl ?_
    refine dg_s (pc' := 37) [.int (240 : Int32), .int x2] rfl (fun _ => rfl) rfl ?_
    refine dw_if (fun t => Φ (Option.bind t (dc_bk (d_X4_readInto_l33s x0)))) (240 ≤ (Int32.toInt x2)) [] 64 40 rfl (fun _ => rfl) (fun c0 => ?_) (fun c0 => ?_)
    · exact dw_j rfl (fun lv1 hv => k_X4_readInto_b64 (Φ := (fun t => Φ (Option.bind (t.map (fun z => Sum.inr (z))) (dc_bk (d_X4_readInto_l33s x0))))) x0 m (fun _a _b => kR _a _b)  (hv.1 _ rfl))
    · refine dw_g rfl ?_
      refine dg_s (pc' := 41) [.ref x0] rfl (fun _ => rfl) rfl ?_
      refine dg_s (pc' := 44) [.int (m.1 x0 2)] rfl (fun _ => rfl) rfl ?_
      refine dw_if (fun t => Φ (Option.bind t (dc_bk (d_X4_readInto_l33s x0)))) (¬ (Int32.toInt (m.1 x0 2)) = 0) [] 64 47 rfl (fun _ => rfl) (fun c1 => ?_) (fun c1 => ?_)
      · exact dw_j rfl (fun lv1 hv => k_X4_readInto_b64 (Φ := (fun t => Φ (Option.bind (t.map (fun z => Sum.inr (z))) (dc_bk (d_X4_readInto_l33s x0))))) x0 m (fun _a _b => kR _a _b)  (hv.1 _ rfl))
      · refine dw_g rfl ?_
        refine dg_s (pc' := 48) [.ref x0] rfl (fun _ => rfl) rfl ?_
        refine dg_s (pc' := 51) [.int (m.1 x0 5)] rfl (fun _ => rfl) rfl ?_
        refine dw_if (fun t => Φ (Option.bind t (dc_bk (d_X4_readInto_l33s x0)))) ((Int32.toInt (m.1 x0 5)) = 0) [] 64 54 rfl (fun _ => rfl) (fun c2 => ?_) (fun c2 => ?_)
        · exact dw_j rfl (fun lv1 hv => k_X4_readInto_b64 (Φ := (fun t => Φ (Option.bind (t.map (fun z => Sum.inr (z))) (dc_bk (d_X4_readInto_l33s x0))))) x0 m (fun _a _b => kR _a _b)  (hv.1 _ rfl))
        · refine dw_g rfl ?_
          refine dg_s (pc' := 55) [.ref x0] rfl (fun _ => rfl) rfl ?_
          refine dw_b (fun t => Φ (Option.bind t (dc_bk (d_X4_readInto_l33s x0)))) (pc' := 58) (fun q1 => []) (fun q1 => q1) rfl (fun _ => rfl) (fun q1 => ?_)
          refine dw_g rfl ?_
          refine dg_L (pc' := 61) [(2, .int (x2 + (1 : Int32))), (0, .ref x0)] [] rfl (fun _ => rfl) rfl ?_
          refine dw_s (pc' := 33) [] rfl (fun _ => rfl) ?_
          exact dw_j rfl (fun lv1 hv => ih (x2 + (1 : Int32)) q1 lv1 (hv.1 _ rfl) (hv.2.1 _ rfl))
noncomputable def d_X4_readInto_b5 (x0 : Nat) (m : dc_M) : Option (Int32 × dc_M) :=
  (dc_let (d_X3_clear (m.2.2.1 x0 8) m) (fun q1 => ((d_X4_take x0 (dc_wi (dc_wi (dc_wi q1 x0 2 (0 : Int32)) x0 3 (0 : Int32)) x0 4 (0 : Int32))).bind (fun q2 => (d_X4_readInto_l33 x0 (0 : Int32) q2)))))
set_option maxHeartbeats 8000000 in
theorem k_X4_readInto_b5 {N : Nat} {Φ : (Option (Int32 × dc_M)) → Option Value → dc_M → Prop} (x0 : Nat) (m : dc_M) (kR : ∀ (v : Int32) (m : dc_M), Φ (some ((v, m))) (some (.int v)) m)  {lv : ab_L} (f0 : ab_lk lv 0 = some (.ref x0)) : dc_pv 3 N ab_M_X4_readInto 5 lv [] m (Φ (d_X4_readInto_b5 x0 m)) := by
  refine dc_pv.mono (dc_ok (C := C_X4_readInto) (S := S_X4_readInto) CO_X4_readInto 400 5 [(0, .ref x0)] lv [] m (dc_sub_cons f0 (dc_sub_nil)) ?_) (Nat.le_succ N)
  unfold d_X4_readInto_b5
  refine dg_s (pc' := 6) [.ref x0] rfl (fun _ => rfl) rfl ?_
  refine dg_s (pc' := 9) [.ref (m.2.2.1 x0 8)] rfl (fun _ => rfl) rfl ?_
  refine dw_l (fun t => Φ t) (pc' := 12) (fun q1 => []) (fun q1 => q1) rfl (fun _ => rfl) (fun q1 => ?_)
  refine dw_g rfl ?_
  refine dg_s (pc' := 13) [.ref x0] rfl (fun _ => rfl) rfl ?_
  refine dg_s (pc' := 14) [.int (0 : Int32), .ref x0] rfl (fun _ => rfl) rfl ?_
  refine dg_m (pc' := 17) (dc_wi q1 x0 2 (0 : Int32)) [] rfl (fun _ => rfl) rfl ?_
  refine dg_s (pc' := 18) [.ref x0] rfl (fun _ => rfl) rfl ?_
  refine dg_s (pc' := 19) [.int (0 : Int32), .ref x0] rfl (fun _ => rfl) rfl ?_
  refine dg_m (pc' := 22) (dc_wi (dc_wi q1 x0 2 (0 : Int32)) x0 3 (0 : Int32)) [] rfl (fun _ => rfl) rfl ?_
  refine dg_s (pc' := 23) [.ref x0] rfl (fun _ => rfl) rfl ?_
  refine dg_s (pc' := 24) [.int (0 : Int32), .ref x0] rfl (fun _ => rfl) rfl ?_
  refine dg_m (pc' := 27) (dc_wi (dc_wi (dc_wi q1 x0 2 (0 : Int32)) x0 3 (0 : Int32)) x0 4 (0 : Int32)) [] rfl (fun _ => rfl) rfl ?_
  refine dg_s (pc' := 28) [.ref x0] rfl (fun _ => rfl) rfl ?_
  refine dw_b (fun t => Φ t) (pc' := 31) (fun q2 => []) (fun q2 => q2) rfl (fun _ => rfl) (fun q2 => ?_)
  refine dw_g rfl ?_
  refine dg_s (pc' := 32) [.int (0 : Int32)] rfl (fun _ => rfl) rfl ?_
  refine dw_L (pc' := 33) [(2, .int (0 : Int32)), (0, .ref x0)] [] rfl (fun _ => rfl) ?_
  exact dw_j rfl (fun lv1 hv => k_X4_readInto_l33 (Φ := (fun t => Φ t)) x0 (fun _a _b => kR _a _b) N  (0 : Int32) q2 lv1 (hv.1 _ rfl) (hv.2.1 _ rfl))
noncomputable def d_X4_readInto (x0 : Nat) (x1 : Nat) (m : dc_M) : Option (Int32 × dc_M) := d_X4_readInto_b5 x0 (dc_wr m x0 8 x1)
theorem dc_fk43 {ci k : Nat} (h : ¬ (ci = 4 ∧ k = 8)) : dc_fk 3 ci k = dc_fk 4 ci k := by
  unfold dc_fk
  split
  all_goals first
    | rfl
    | (rw [if_neg h, if_neg h])
theorem dc_wf34 {h : ab_H} (w : dc_wf 3 h) : dc_wf 4 h := fun a ha => by
  have q := w a ha
  cases hh : h.2.2 a with
  | inl z =>
    rw [hh] at q
    obtain ⟨t, n, c⟩ := z
    rcases c with c | c | c <;> exact q
  | inr z =>
    obtain ⟨ci, ws⟩ := z
    rw [hh] at q
    refine ⟨q.1, fun k v hk => ?_⟩
    by_cases e : ci = 4 ∧ k = 8
    · have q := q.2 k v hk
      obtain ⟨rfl, rfl⟩ := e
      exact Or.inr q
    · rw [← dc_fk43 e]
      exact q.2 k v hk
theorem dc_wf43 {h : ab_H} {a : Nat} {fs : List Value} {x : Nat} (w : dc_wf 4 h) (hr : ab_rd h a = some (.inr (4, fs))) (hl : 8 < fs.length) : dc_wf 3 (ab_wr h a (.inr (4, fs.set 8 (.ref x)))) := fun b hb => by
  have hb : b < h.1 := hb
  have q := w b hb
  have qa := dc_we_of w hr
  show dc_we 3 b (va_up h.2.2 a _ b)
  unfold va_up
  by_cases e : b = a
  · rw [if_pos e]
    refine ⟨fun z => by rw [e]; exact qa.1 z, fun k v hk => ?_⟩
    have hk : (fs.set 8 (.ref x))[k]? = some v := hk
    rw [dc_gs hl] at hk
    split at hk
    · rename_i e2
      cases hk
      rw [e2]
      exact ⟨x, rfl⟩
    · rename_i e2
      rw [dc_fk43 (fun z => e2 z.2), e]
      exact qa.2 k v hk
  · rw [if_neg e]
    cases hh : h.2.2 b with
    | inl z =>
      rw [hh] at q
      obtain ⟨t, n, c⟩ := z
      rcases c with c | c | c <;> exact q
    | inr z =>
      obtain ⟨ci, ws⟩ := z
      rw [hh] at q
      refine ⟨q.1, fun k v hk => ?_⟩
      by_cases e2 : ci = 4 ∧ k = 8
      · exact absurd ((q.1 e2.1).trans (qa.1 rfl).symm) e
      · rw [dc_fk43 e2]
        exact q.2 k v hk
theorem k_X4_readInto {N : Nat} {Φ : (Option (Int32 × dc_M)) → Option Value → dc_M → Prop} (x0 : Nat) (x1 : Nat) (m : dc_M) (kR : ∀ (v : Int32) (m : dc_M), Φ (some ((v, m))) (some (.int v)) m) {lv : ab_L} (f0 : ab_lk lv 0 = some (.ref x0)) (f1 : ab_lk lv 1 = some (.ref x1)) : dc_pv 4 N ab_M_X4_readInto 0 lv [] m (Φ (d_X4_readInto x0 x1 m)) := by
  intro d h wf hv
  refine pa_s (pc' := 1) (lv' := lv) (st' := [.ref x0]) (h' := h) rfl rfl (ig_ald f0) ?_
  refine pa_s (pc' := 2) (lv' := lv) (st' := [.ref x1, .ref x0]) (h' := h) rfl rfl (ig_ald f1) ?_
  intro n hn r h' hx
  cases n with
  | zero => cases hx
  | succ n =>
    unfold ab_ex at hx
    have a1 : ab_at ab_M_X4_readInto.2.2.2.2.2 2 = some (ab_f (.putfield 19) 4 8 144) := rfl
    simp only [a1, show ab_kd (ab_f (.putfield 19) 4 8 144) = 0 from rfl] at hx
    cases e : ab_sp ab_M_X4_readInto.2.2.1 (ab_f (.putfield 19) 4 8 144) 2 lv [.ref x1, .ref x0] h with
    | none => rw [e] at hx; cases hx
    | some s =>
      rw [e] at hx
      have e : ab_put 4 8 2 lv [.ref x1, .ref x0] h = some s := e
      unfold ab_put at e
      dsimp only at e
      split at e
      · rename_i cj fs hr
        split at e
        · rename_i hc
          obtain ⟨rfl, hl, hf⟩ := hc
          cases e
          have vw : dc_vw (ab_wr h x0 (.inr (4, fs.set 8 (.ref x1)))) = dc_wr m x0 8 x1 := by
            obtain ⟨old, hold⟩ : ∃ old, fs[8]? = some old := ⟨_, List.getElem?_eq_getElem hl⟩
            have wo : old = .null ∨ ∃ b, old = .ref b := (dc_we_of wf hr).2 8 old hold
            rw [dc_vw_wr, ← hv]
            unfold dc_wr
            refine Prod.ext ?_ (Prod.ext ?_ (Prod.ext ?_ ?_))
            · refine dc_same1 (fun j => ?_)
              rw [dc_v1 hr]
              unfold dc_vi
              dsimp only
              rw [dc_gs hl]
              by_cases q : j = 8
              · rw [if_pos q, q, hold]
                rcases wo with rfl | ⟨b, rfl⟩ <;> rfl
              · rw [if_neg q]
            · refine dc_same2 (fun j => ?_)
              rw [dc_v2 hr]
              unfold dc_vl
              dsimp only
              rw [dc_gs hl]
              by_cases q : j = 8
              · rw [if_pos q, q, hold]
                rcases wo with rfl | ⟨b, rfl⟩ <;> rfl
              · rw [if_neg q]
            · refine dc_set1 ?_ (fun j hj => ?_)
              · unfold dc_vr
                dsimp only
                rw [dc_gs hl, if_pos rfl]
              · rw [dc_v3 hr]
                unfold dc_vr
                dsimp only
                rw [dc_gs hl, if_neg hj]
            · exact dc_same4 (by rw [dc_v4 hr]; rfl)
          have k := k_X4_readInto_b5 (N := n) (Φ := Φ) x0 (dc_wr m x0 8 x1) kR (lv := lv) f0 d _ (dc_wf43 wf hr hl) vw n (Nat.le_refl _) r h' hx
          exact ⟨dc_wf34 k.1, k.2⟩
        · cases e
      · cases e
noncomputable def H_X4_readInto : dc_H := fun As m k => match As with
  | [.ref x0, .ref x1] => (d_X4_readInto x0 x1 m).bind (fun q => k (some (.int q.1)) q.2)
  | _ => dc_kz
theorem H_X4_readInto_ok : dc_cok 4 47 H_X4_readInto := fun M' hG N As m k P hz hP => by
  obtain rfl : ab_M_X4_readInto = M' := Option.some.inj hG
  unfold H_X4_readInto at hP
  split at hP
  · rename_i x0 x1
    exact dc_pv.imp (k_X4_readInto (Φ := fun (t : Option (Int32 × dc_M)) r m' => P (t.bind (fun q => k (some (.int q.1)) q.2)) → P (k r m')) x0 x1 m (fun _ _ h => h) rfl rfl) (fun r m' h => h hP)
  · exact absurd hP hz
def C_X9_beginAnew : List (Nat × dc_H) := []
theorem CO_X9_beginAnew {u : Nat} : dc_CO u C_X9_beginAnew := dc_CO_nil
def S_X9_beginAnew : List (Nat × List Nat) := []
def d_X9_beginAnew (x0 : Nat) (m : dc_M) : dc_M :=
  (dc_wi (dc_wi (dc_wi (dc_wi (dc_wi (dc_wi (dc_wi m (x0 + 36) 0 (0 : Int32)) x0 11 (0 : Int32)) x0 12 (0 : Int32)) x0 13 (0 : Int32)) x0 14 (0 : Int32)) x0 15 (-100 : Int32)) x0 16 (-100 : Int32))
set_option maxHeartbeats 8000000 in
theorem k_X9_beginAnew {u : Nat} {N : Nat} {Φ : dc_M → Option Value → dc_M → Prop} (x0 : Nat) (m : dc_M) (kR : ∀  (m : dc_M), Φ (m) (none) m)  {lv : ab_L} (f0 : ab_lk lv 0 = some (.ref x0)) : dc_pv u N ab_M_X9_beginAnew 0 lv [] m (Φ (d_X9_beginAnew x0 m)) := by
  refine dc_pv.mono (dc_ok (C := C_X9_beginAnew) (S := S_X9_beginAnew) CO_X9_beginAnew 400 0 [(0, .ref x0)] lv [] m (dc_sub_cons f0 (dc_sub_nil)) ?_) (Nat.le_succ N)
  unfold d_X9_beginAnew
  refine dg_s (pc' := 1) [.ref x0] rfl (fun _ => rfl) rfl ?_
  refine dg_s (pc' := 4) [.ref (x0 + 36)] rfl (fun _ => rfl) rfl ?_
  refine dg_s (pc' := 5) [.int (0 : Int32), .ref (x0 + 36)] rfl (fun _ => rfl) rfl ?_
  refine dg_m (pc' := 8) (dc_wi m (x0 + 36) 0 (0 : Int32)) [] rfl (fun _ => rfl) rfl ?_
  refine dg_s (pc' := 9) [.ref x0] rfl (fun _ => rfl) rfl ?_
  refine dg_s (pc' := 10) [.int (0 : Int32), .ref x0] rfl (fun _ => rfl) rfl ?_
  refine dg_m (pc' := 13) (dc_wi (dc_wi m (x0 + 36) 0 (0 : Int32)) x0 11 (0 : Int32)) [] rfl (fun _ => rfl) rfl ?_
  refine dg_s (pc' := 14) [.ref x0] rfl (fun _ => rfl) rfl ?_
  refine dg_s (pc' := 15) [.int (0 : Int32), .ref x0] rfl (fun _ => rfl) rfl ?_
  refine dg_m (pc' := 18) (dc_wi (dc_wi (dc_wi m (x0 + 36) 0 (0 : Int32)) x0 11 (0 : Int32)) x0 12 (0 : Int32)) [] rfl (fun _ => rfl) rfl ?_
  refine dg_s (pc' := 19) [.ref x0] rfl (fun _ => rfl) rfl ?_
  refine dg_s (pc' := 20) [.int (0 : Int32), .ref x0] rfl (fun _ => rfl) rfl ?_
  refine dg_m (pc' := 23) (dc_wi (dc_wi (dc_wi (dc_wi m (x0 + 36) 0 (0 : Int32)) x0 11 (0 : Int32)) x0 12 (0 : Int32)) x0 13 (0 : Int32)) [] rfl (fun _ => rfl) rfl ?_
  refine dg_s (pc' := 24) [.ref x0] rfl (fun _ => rfl) rfl ?_
  refine dg_s (pc' := 25) [.int (0 : Int32), .ref x0] rfl (fun _ => rfl) rfl ?_
  refine dg_m (pc' := 28) (dc_wi (dc_wi (dc_wi (dc_wi (dc_wi m (x0 + 36) 0 (0 : Int32)) x0 11 (0 : Int32)) x0 12 (0 : Int32)) x0 13 (0 : Int32)) x0 14 (0 : Int32)) [] rfl (fun _ => rfl) rfl ?_
  refine dg_s (pc' := 29) [.ref x0] rfl (fun _ => rfl) rfl ?_
  refine dg_s (pc' := 31) [.int (-100 : Int32), .ref x0] rfl (fun _ => rfl) rfl ?_
  refine dg_m (pc' := 34) (dc_wi (dc_wi (dc_wi (dc_wi (dc_wi (dc_wi m (x0 + 36) 0 (0 : Int32)) x0 11 (0 : Int32)) x0 12 (0 : Int32)) x0 13 (0 : Int32)) x0 14 (0 : Int32)) x0 15 (-100 : Int32)) [] rfl (fun _ => rfl) rfl ?_
  refine dg_s (pc' := 35) [.ref x0] rfl (fun _ => rfl) rfl ?_
  refine dg_s (pc' := 37) [.int (-100 : Int32), .ref x0] rfl (fun _ => rfl) rfl ?_
  refine dg_m (pc' := 40) (dc_wi (dc_wi (dc_wi (dc_wi (dc_wi (dc_wi (dc_wi m (x0 + 36) 0 (0 : Int32)) x0 11 (0 : Int32)) x0 12 (0 : Int32)) x0 13 (0 : Int32)) x0 14 (0 : Int32)) x0 15 (-100 : Int32)) x0 16 (-100 : Int32)) [] rfl (fun _ => rfl) rfl ?_
  exact dw_r (some (.inl (none, (dc_wi (dc_wi (dc_wi (dc_wi (dc_wi (dc_wi (dc_wi m (x0 + 36) 0 (0 : Int32)) x0 11 (0 : Int32)) x0 12 (0 : Int32)) x0 13 (0 : Int32)) x0 14 (0 : Int32)) x0 15 (-100 : Int32)) x0 16 (-100 : Int32))))) rfl (fun _ => rfl) (kR _)
def H_X9_beginAnew : dc_H := fun As m k => match As with
  | [.ref x0] => dc_let (d_X9_beginAnew x0 m) (fun q => k (none) q)
  | _ => dc_kz
theorem H_X9_beginAnew_ok {u : Nat} : dc_cok u 133 H_X9_beginAnew := fun M' hG N As m k P hz hP => by
  obtain rfl : ab_M_X9_beginAnew = M' := Option.some.inj hG
  unfold H_X9_beginAnew at hP
  split at hP
  · rename_i x0
    exact dc_pv.imp (k_X9_beginAnew (Φ := fun (t : dc_M) r m' => P (dc_let t (fun q => k (none) q)) → P (k r m')) x0 m (fun _ h => h) rfl) (fun r m' h => h hP)
  · exact absurd hP hz
noncomputable def C_X9_text : List (Nat × dc_H) := [(47, H_X4_readInto), (133, H_X9_beginAnew)]
theorem CO_X9_text : dc_CO 4 C_X9_text := dc_CO_cons H_X4_readInto_ok (dc_CO_cons H_X9_beginAnew_ok (dc_CO_nil))
def S_X9_text : List (Nat × List Nat) := []
noncomputable def d_X9_text (x0 : Nat) (m : dc_M) : Option (Int32 × dc_M) :=
  ((d_X4_readInto (x0 + 1) (m.2.2.1 x0 8) m).bind (fun q1 => (if ¬ (Int32.toInt q1.1) = 0 then (dc_let (d_X9_beginAnew x0 (dc_wr (dc_wr (dc_wi q1.2 (x0 + 1) 1 (0 : Int32)) x0 7 ((dc_wi q1.2 (x0 + 1) 1 (0 : Int32)).2.2.1 x0 8)) x0 8 ((dc_wi q1.2 (x0 + 1) 1 (0 : Int32)).2.2.1 x0 7))) (fun q2 => some (((q2.1 (q2.2.2.1 x0 7) 2), q2)))) else some ((((-10 : Int32) - ((dc_wi q1.2 (x0 + 1) 1 (0 : Int32)).1 (x0 + 1) 3)), (dc_wi q1.2 (x0 + 1) 1 (0 : Int32)))))))
set_option maxHeartbeats 8000000 in
theorem k_X9_text {N : Nat} {Φ : (Option (Int32 × dc_M)) → Option Value → dc_M → Prop} (x0 : Nat) (m : dc_M) (kR : ∀ (v : Int32) (m : dc_M), Φ (some ((v, m))) (some (.int v)) m)  {lv : ab_L} (f0 : ab_lk lv 0 = some (.ref x0)) : dc_pv 4 N ab_M_X9_text 0 lv [] m (Φ (d_X9_text x0 m)) := by
  refine dc_pv.mono (dc_ok (C := C_X9_text) (S := S_X9_text) CO_X9_text 400 0 [(0, .ref x0)] lv [] m (dc_sub_cons f0 (dc_sub_nil)) ?_) (Nat.le_succ N)
  unfold d_X9_text
  refine dg_s (pc' := 1) [.ref x0] rfl (fun _ => rfl) rfl ?_
  refine dg_s (pc' := 4) [.ref (x0 + 1)] rfl (fun _ => rfl) rfl ?_
  refine dg_s (pc' := 5) [.ref x0, .ref (x0 + 1)] rfl (fun _ => rfl) rfl ?_
  refine dg_s (pc' := 8) [.ref (m.2.2.1 x0 8), .ref (x0 + 1)] rfl (fun _ => rfl) rfl ?_
  refine dw_b (fun t => Φ t) (pc' := 11) (fun q1 => [.int q1.1]) (fun q1 => q1.2) rfl (fun _ => rfl) (fun q1 => ?_)
  refine dw_g rfl ?_
  refine dg_L (pc' := 12) [(1, .int q1.1), (0, .ref x0)] [] rfl (fun _ => rfl) rfl ?_
  refine dg_s (pc' := 13) [.ref x0] rfl (fun _ => rfl) rfl ?_
  refine dg_s (pc' := 16) [.ref (x0 + 1)] rfl (fun _ => rfl) rfl ?_
  refine dg_s (pc' := 17) [.int (0 : Int32), .ref (x0 + 1)] rfl (fun _ => rfl) rfl ?_
  refine dg_m (pc' := 20) (dc_wi q1.2 (x0 + 1) 1 (0 : Int32)) [] rfl (fun _ => rfl) rfl ?_
  refine dg_s (pc' := 21) [.int q1.1] rfl (fun _ => rfl) rfl ?_
  refine dw_if (fun t => Φ t) (¬ (Int32.toInt q1.1) = 0) [] 35 24 rfl (fun _ => rfl) (fun c0 => ?_) (fun c0 => ?_)
  · refine dw_g rfl ?_
    refine dg_s (pc' := 36) [.ref x0] rfl (fun _ => rfl) rfl ?_
    refine dg_s (pc' := 39) [.ref ((dc_wi q1.2 (x0 + 1) 1 (0 : Int32)).2.2.1 x0 7)] rfl (fun _ => rfl) rfl ?_
    refine dg_L (pc' := 40) [(2, .ref ((dc_wi q1.2 (x0 + 1) 1 (0 : Int32)).2.2.1 x0 7)), (1, .int q1.1), (0, .ref x0)] [] rfl (fun _ => rfl) rfl ?_
    refine dg_s (pc' := 41) [.ref x0] rfl (fun _ => rfl) rfl ?_
    refine dg_s (pc' := 42) [.ref x0, .ref x0] rfl (fun _ => rfl) rfl ?_
    refine dg_s (pc' := 45) [.ref ((dc_wi q1.2 (x0 + 1) 1 (0 : Int32)).2.2.1 x0 8), .ref x0] rfl (fun _ => rfl) rfl ?_
    refine dg_m (pc' := 48) (dc_wr (dc_wi q1.2 (x0 + 1) 1 (0 : Int32)) x0 7 ((dc_wi q1.2 (x0 + 1) 1 (0 : Int32)).2.2.1 x0 8)) [] rfl (fun _ => rfl) rfl ?_
    refine dg_s (pc' := 49) [.ref x0] rfl (fun _ => rfl) rfl ?_
    refine dg_s (pc' := 50) [.ref ((dc_wi q1.2 (x0 + 1) 1 (0 : Int32)).2.2.1 x0 7), .ref x0] rfl (fun _ => rfl) rfl ?_
    refine dg_m (pc' := 53) (dc_wr (dc_wr (dc_wi q1.2 (x0 + 1) 1 (0 : Int32)) x0 7 ((dc_wi q1.2 (x0 + 1) 1 (0 : Int32)).2.2.1 x0 8)) x0 8 ((dc_wi q1.2 (x0 + 1) 1 (0 : Int32)).2.2.1 x0 7)) [] rfl (fun _ => rfl) rfl ?_
    refine dg_s (pc' := 54) [.ref x0] rfl (fun _ => rfl) rfl ?_
    refine dw_l (fun t => Φ t) (pc' := 57) (fun q2 => []) (fun q2 => q2) rfl (fun _ => rfl) (fun q2 => ?_)
    refine dw_g rfl ?_
    refine dg_s (pc' := 58) [.ref x0] rfl (fun _ => rfl) rfl ?_
    refine dg_s (pc' := 61) [.ref (q2.2.2.1 x0 7)] rfl (fun _ => rfl) rfl ?_
    refine dg_s (pc' := 64) [.int (q2.1 (q2.2.2.1 x0 7) 2)] rfl (fun _ => rfl) rfl ?_
    exact dw_r (some (.inl (some (.int (q2.1 (q2.2.2.1 x0 7) 2)), q2))) rfl (fun _ => rfl) (kR _ _)
  · refine dw_g rfl ?_
    refine dg_s (pc' := 26) [.int (-10 : Int32)] rfl (fun _ => rfl) rfl ?_
    refine dg_s (pc' := 27) [.ref x0, .int (-10 : Int32)] rfl (fun _ => rfl) rfl ?_
    refine dg_s (pc' := 30) [.ref (x0 + 1), .int (-10 : Int32)] rfl (fun _ => rfl) rfl ?_
    refine dg_s (pc' := 33) [.int ((dc_wi q1.2 (x0 + 1) 1 (0 : Int32)).1 (x0 + 1) 3), .int (-10 : Int32)] rfl (fun _ => rfl) rfl ?_
    refine dg_s (pc' := 34) [.int ((-10 : Int32) - ((dc_wi q1.2 (x0 + 1) 1 (0 : Int32)).1 (x0 + 1) 3))] rfl (fun _ => rfl) rfl ?_
    exact dw_r (some (.inl (some (.int ((-10 : Int32) - ((dc_wi q1.2 (x0 + 1) 1 (0 : Int32)).1 (x0 + 1) 3))), (dc_wi q1.2 (x0 + 1) 1 (0 : Int32))))) rfl (fun _ => rfl) (kR _ _)
noncomputable def H_X9_text : dc_H := fun As m k => match As with
  | [.ref x0] => (d_X9_text x0 m).bind (fun q => k (some (.int q.1)) q.2)
  | _ => dc_kz
theorem H_X9_text_ok : dc_cok 4 103 H_X9_text := fun M' hG N As m k P hz hP => by
  obtain rfl : ab_M_X9_text = M' := Option.some.inj hG
  unfold H_X9_text at hP
  split at hP
  · rename_i x0
    exact dc_pv.imp (k_X9_text (Φ := fun (t : Option (Int32 × dc_M)) r m' => P (t.bind (fun q => k (some (.int q.1)) q.2)) → P (k r m')) x0 m (fun _ _ h => h) rfl) (fun r m' h => h hP)
  · exact absurd hP hz
def C_X9_fault : List (Nat × dc_H) := []
theorem CO_X9_fault {u : Nat} : dc_CO u C_X9_fault := dc_CO_nil
def S_X9_fault : List (Nat × List Nat) := []
def d_X9_fault (x0 : Nat) (m : dc_M) : Int32 :=
  (m.1 (x0 + 1) 2)
set_option maxHeartbeats 8000000 in
theorem k_X9_fault {u : Nat} {N : Nat} {Φ : Int32 → Option Value → dc_M → Prop} (x0 : Nat) (m : dc_M) (kR : ∀ (v : Int32), Φ (v) (some (.int v)) m)  {lv : ab_L} (f0 : ab_lk lv 0 = some (.ref x0)) : dc_pv u N ab_M_X9_fault 0 lv [] m (Φ (d_X9_fault x0 m)) := by
  refine dc_pv.mono (dc_ok (C := C_X9_fault) (S := S_X9_fault) CO_X9_fault 400 0 [(0, .ref x0)] lv [] m (dc_sub_cons f0 (dc_sub_nil)) ?_) (Nat.le_succ N)
  unfold d_X9_fault
  refine dg_s (pc' := 1) [.ref x0] rfl (fun _ => rfl) rfl ?_
  refine dg_s (pc' := 4) [.ref (x0 + 1)] rfl (fun _ => rfl) rfl ?_
  refine dg_s (pc' := 7) [.int (m.1 (x0 + 1) 2)] rfl (fun _ => rfl) rfl ?_
  exact dw_r (some (.inl (some (.int (m.1 (x0 + 1) 2)), m))) rfl (fun _ => rfl) (kR _)
def H_X9_fault : dc_H := fun As m k => match As with
  | [.ref x0] => k (some (.int (d_X9_fault x0 m))) m
  | _ => dc_kz
theorem H_X9_fault_ok {u : Nat} : dc_cok u 104 H_X9_fault := fun M' hG N As m k P hz hP => by
  obtain rfl : ab_M_X9_fault = M' := Option.some.inj hG
  unfold H_X9_fault at hP
  split at hP
  · rename_i x0
    exact dc_pv.imp (k_X9_fault (Φ := fun (t : Int32) r m' => P (k (some (.int t)) m) → P (k r m')) x0 m (fun _  h => h) rfl) (fun r m' h => h hP)
  · exact absurd hP hz
def C_X10_feed : List (Nat × dc_H) := []
theorem CO_X10_feed {u : Nat} : dc_CO u C_X10_feed := dc_CO_nil
def S_X10_feed : List (Nat × List Nat) := [(19, [0, 1, 3])]
noncomputable def d_X10_feed_l19b (x0 : Nat) (x1 : Int64) (x3 : Int32) (m : dc_M) : Option ((Int32 × dc_M) ⊕ (Int32 × dc_M)) :=
  (if (Int32.toInt x3) < 0 then some (Sum.inr (((m.1 x0 13), m))) else some (Sum.inl ((x3 + (-8)), (dc_wi (dc_wi m (x0 + 9) (Int32.toNatClampNeg (m.1 x0 13)) ((Int64.toInt32 (x1 >>> (Int32.toInt64 x3 &&& 63))) &&& (255 : Int32))) x0 13 (((dc_wi m (x0 + 9) (Int32.toNatClampNeg (m.1 x0 13)) ((Int64.toInt32 (x1 >>> (Int32.toInt64 x3 &&& 63))) &&& (255 : Int32))).1 x0 13) + (1 : Int32))))))
noncomputable def d_X10_feed_l19s (x0 : Nat) (x1 : Int64) : (Int32 × dc_M) → Option ((Int32 × dc_M) ⊕ (Int32 × dc_M)) := fun s => d_X10_feed_l19b x0 x1 s.1 s.2
noncomputable def d_X10_feed_l19 (x0 : Nat) (x1 : Int64) (x3 : Int32) (m : dc_M) : Option (Int32 × dc_M) := dc_lp (d_X10_feed_l19s x0 x1) (x3, m)
set_option maxHeartbeats 8000000 in
theorem k_X10_feed_l19 {u : Nat} {Φ : (Option (Int32 × dc_M)) → Option Value → dc_M → Prop} (x0 : Nat) (x1 : Int64) (kR : ∀ (v : Int32) (m : dc_M), Φ (some ((v, m))) (some (.int v)) m) : ∀ (N : Nat), ∀ (x3 : Int32) (m : dc_M) (lv : ab_L), ab_lk lv 0 = some (.ref x0) → ab_lk lv 1 = some (.long x1) → ab_lk lv 3 = some (.int x3) → dc_pv u N ab_M_X10_feed 19 lv [] m (Φ (d_X10_feed_l19 x0 x1 x3 m)) := by
  intro N
  induction N with
  | zero => intros; exact dc_pv_zero
  | succ N ih =>
    intro x3 m lv f0 f1 f3
    refine dc_ok (C := C_X10_feed) (S := S_X10_feed) CO_X10_feed 400 19 [(0, .ref x0), (1, .long x1), (3, .int x3)] lv [] m (dc_sub_cons f0 (dc_sub_cons f1 (dc_sub_cons f3 (dc_sub_nil)))) ?_
    unfold d_X10_feed_l19
    rw [dc_lp_eq]
    show (fun t x => dc_lf u N ab_M_X10_feed (Φ (Option.bind t (dc_bk (d_X10_feed_l19s x0 x1)))) x) (d_X10_feed_l19b x0 x1 x3 m) _
    dsimp only
    unfold d_X10_feed_l19b
    refine dg_s (pc' := 20) [.int x3] rfl (fun _ => rfl) rfl ?_
    refine dw_if (fun t => Φ (Option.bind t (dc_bk (d_X10_feed_l19s x0 x1)))) ((Int32.toInt x3) < 0) [] 56 23 rfl (fun _ => rfl) (fun c0 => ?_) (fun c0 => ?_)
    · refine dw_g rfl ?_
      refine dg_s (pc' := 57) [.ref x0] rfl (fun _ => rfl) rfl ?_
      refine dg_s (pc' := 60) [.int (m.1 x0 13)] rfl (fun _ => rfl) rfl ?_
      exact dw_r (some (.inl (some (.int (m.1 x0 13)), m))) rfl (fun _ => rfl) (kR _ _)
    · refine dw_g rfl ?_
      refine dg_s (pc' := 24) [.ref x0] rfl (fun _ => rfl) rfl ?_
      refine dg_s (pc' := 27) [.ref (x0 + 9)] rfl (fun _ => rfl) rfl ?_
      refine dg_s (pc' := 28) [.ref x0, .ref (x0 + 9)] rfl (fun _ => rfl) rfl ?_
      refine dg_s (pc' := 31) [.int (m.1 x0 13), .ref (x0 + 9)] rfl (fun _ => rfl) rfl ?_
      refine dg_s (pc' := 32) [.long x1, .int (m.1 x0 13), .ref (x0 + 9)] rfl (fun _ => rfl) rfl ?_
      refine dg_s (pc' := 33) [.int x3, .long x1, .int (m.1 x0 13), .ref (x0 + 9)] rfl (fun _ => rfl) rfl ?_
      refine dg_s (pc' := 34) [.long (x1 >>> (Int32.toInt64 x3 &&& 63)), .int (m.1 x0 13), .ref (x0 + 9)] rfl (fun _ => rfl) rfl ?_
      refine dg_s (pc' := 35) [.int (Int64.toInt32 (x1 >>> (Int32.toInt64 x3 &&& 63))), .int (m.1 x0 13), .ref (x0 + 9)] rfl (fun _ => rfl) rfl ?_
      refine dg_s (pc' := 38) [.int (255 : Int32), .int (Int64.toInt32 (x1 >>> (Int32.toInt64 x3 &&& 63))), .int (m.1 x0 13), .ref (x0 + 9)] rfl (fun _ => rfl) rfl ?_
      refine dg_s (pc' := 39) [.int ((Int64.toInt32 (x1 >>> (Int32.toInt64 x3 &&& 63))) &&& (255 : Int32)), .int (m.1 x0 13), .ref (x0 + 9)] rfl (fun _ => rfl) rfl ?_
      refine dg_m (pc' := 40) (dc_wi m (x0 + 9) (Int32.toNatClampNeg (m.1 x0 13)) ((Int64.toInt32 (x1 >>> (Int32.toInt64 x3 &&& 63))) &&& (255 : Int32))) [] rfl (fun _ => rfl) rfl ?_
      refine dg_s (pc' := 41) [.ref x0] rfl (fun _ => rfl) rfl ?_
      refine dg_s (pc' := 42) [.ref x0, .ref x0] rfl (fun _ => rfl) rfl ?_
      refine dg_s (pc' := 45) [.int ((dc_wi m (x0 + 9) (Int32.toNatClampNeg (m.1 x0 13)) ((Int64.toInt32 (x1 >>> (Int32.toInt64 x3 &&& 63))) &&& (255 : Int32))).1 x0 13), .ref x0] rfl (fun _ => rfl) rfl ?_
      refine dg_s (pc' := 46) [.int (1 : Int32), .int ((dc_wi m (x0 + 9) (Int32.toNatClampNeg (m.1 x0 13)) ((Int64.toInt32 (x1 >>> (Int32.toInt64 x3 &&& 63))) &&& (255 : Int32))).1 x0 13), .ref x0] rfl (fun _ => rfl) rfl ?_
      refine dg_s (pc' := 47) [.int (((dc_wi m (x0 + 9) (Int32.toNatClampNeg (m.1 x0 13)) ((Int64.toInt32 (x1 >>> (Int32.toInt64 x3 &&& 63))) &&& (255 : Int32))).1 x0 13) + (1 : Int32)), .ref x0] rfl (fun _ => rfl) rfl ?_
      refine dg_m (pc' := 50) (dc_wi (dc_wi m (x0 + 9) (Int32.toNatClampNeg (m.1 x0 13)) ((Int64.toInt32 (x1 >>> (Int32.toInt64 x3 &&& 63))) &&& (255 : Int32))) x0 13 (((dc_wi m (x0 + 9) (Int32.toNatClampNeg (m.1 x0 13)) ((Int64.toInt32 (x1 >>> (Int32.toInt64 x3 &&& 63))) &&& (255 : Int32))).1 x0 13) + (1 : Int32))) [] rfl (fun _ => rfl) rfl ?_
      refine dg_L (pc' := 53) [(3, .int (x3 + (-8))), (0, .ref x0), (1, .long x1)] [] rfl (fun _ => rfl) rfl ?_
      refine dw_s (pc' := 19) [] rfl (fun _ => rfl) ?_
      exact dw_j rfl (fun lv1 hv => ih (x3 + (-8)) (dc_wi (dc_wi m (x0 + 9) (Int32.toNatClampNeg (m.1 x0 13)) ((Int64.toInt32 (x1 >>> (Int32.toInt64 x3 &&& 63))) &&& (255 : Int32))) x0 13 (((dc_wi m (x0 + 9) (Int32.toNatClampNeg (m.1 x0 13)) ((Int64.toInt32 (x1 >>> (Int32.toInt64 x3 &&& 63))) &&& (255 : Int32))).1 x0 13) + (1 : Int32))) lv1 (hv.1 _ rfl) (hv.2.1 _ rfl) (hv.2.2.1 _ rfl))
noncomputable def d_X10_feed (x0 : Nat) (x1 : Int64) (m : dc_M) : Option (Int32 × dc_M) :=
  (if (Int32.toInt ((m.1 x0 13) + (8 : Int32))) ≤ 240 then (d_X10_feed_l19 x0 x1 (56 : Int32) m) else some (((-3 : Int32), m)))
set_option maxHeartbeats 8000000 in
theorem k_X10_feed {u : Nat} {N : Nat} {Φ : (Option (Int32 × dc_M)) → Option Value → dc_M → Prop} (x0 : Nat) (x1 : Int64) (m : dc_M) (kR : ∀ (v : Int32) (m : dc_M), Φ (some ((v, m))) (some (.int v)) m)  {lv : ab_L} (f0 : ab_lk lv 0 = some (.ref x0)) (f1 : ab_lk lv 1 = some (.long x1)) : dc_pv u N ab_M_X10_feed 0 lv [] m (Φ (d_X10_feed x0 x1 m)) := by
  refine dc_pv.mono (dc_ok (C := C_X10_feed) (S := S_X10_feed) CO_X10_feed 400 0 [(0, .ref x0), (1, .long x1)] lv [] m (dc_sub_cons f0 (dc_sub_cons f1 (dc_sub_nil))) ?_) (Nat.le_succ N)
  unfold d_X10_feed
  refine dg_s (pc' := 1) [.ref x0] rfl (fun _ => rfl) rfl ?_
  refine dg_s (pc' := 4) [.int (m.1 x0 13)] rfl (fun _ => rfl) rfl ?_
  refine dg_s (pc' := 6) [.int (8 : Int32), .int (m.1 x0 13)] rfl (fun _ => rfl) rfl ?_
  refine dg_s (pc' := 7) [.int ((m.1 x0 13) + (8 : Int32))] rfl (fun _ => rfl) rfl ?_
  refine dg_s (pc' := 10) [.int (240 : Int32), .int ((m.1 x0 13) + (8 : Int32))] rfl (fun _ => rfl) rfl ?_
  refine dw_if (fun t => Φ t) ((Int32.toInt ((m.1 x0 13) + (8 : Int32))) ≤ 240) [] 16 13 rfl (fun _ => rfl) (fun c0 => ?_) (fun c0 => ?_)
  · refine dw_g rfl ?_
    refine dg_s (pc' := 18) [.int (56 : Int32)] rfl (fun _ => rfl) rfl ?_
    refine dw_L (pc' := 19) [(3, .int (56 : Int32)), (0, .ref x0), (1, .long x1)] [] rfl (fun _ => rfl) ?_
    exact dw_j rfl (fun lv1 hv => k_X10_feed_l19 (Φ := (fun t => Φ t)) x0 x1 (fun _a _b => kR _a _b) N  (56 : Int32) m lv1 (hv.1 _ rfl) (hv.2.1 _ rfl) (hv.2.2.1 _ rfl))
  · refine dw_g rfl ?_
    refine dg_s (pc' := 15) [.int (-3 : Int32)] rfl (fun _ => rfl) rfl ?_
    exact dw_r (some (.inl (some (.int (-3 : Int32)), m))) rfl (fun _ => rfl) (kR _ _)
noncomputable def H_X10_feed : dc_H := fun As m k => match As with
  | [.ref x0, .long x1] => (d_X10_feed x0 x1 m).bind (fun q => k (some (.int q.1)) q.2)
  | _ => dc_kz
theorem H_X10_feed_ok {u : Nat} : dc_cok u 147 H_X10_feed := fun M' hG N As m k P hz hP => by
  obtain rfl : ab_M_X10_feed = M' := Option.some.inj hG
  unfold H_X10_feed at hP
  split at hP
  · rename_i x0 x1
    exact dc_pv.imp (k_X10_feed (Φ := fun (t : Option (Int32 × dc_M)) r m' => P (t.bind (fun q => k (some (.int q.1)) q.2)) → P (k r m')) x0 x1 m (fun _ _ h => h) rfl rfl) (fun r m' h => h hP)
  · exact absurd hP hz
