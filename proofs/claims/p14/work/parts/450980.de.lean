/-! ===== the recursive search as a pure function ===== -/
abbrev lw_T : Type := Nat → Int64 → Int32 → Int32 → dc_M → Option Int32
/-- the search, for calls whose depth is at least g -/
def lw_H (F : lw_T) (g : Int) : dc_H := fun As m k => match As with
  | [.ref x0, .long x1, .int x2, .int x3] => if g ≤ x3.toInt then (F x0 x1 x2 x3 m).bind (fun q => k (some (.int q)) m) else dc_kz
  | _ => dc_kz
theorem lw_g {g : Int} {x : Int32} (h : g ≤ x.toInt) (h2 : ¬ 32 ≤ x.toInt) : g + 1 ≤ (x + 1).toInt := by
  have a := Int32.le_toInt x
  have b := Int32.toInt_lt x
  have e : (x + 1).toInt = x.toInt + 1 := by
    rw [Int32.toInt_add]
    rw [show (1 : Int32).toInt = 1 from rfl]
    exact sx_bm (by omega) (by omega)
  omega
section LWB
variable {u N n pc pc' p1 p2 : Nat} {C : List (Nat × dc_H)} {S : List (Nat × List Nat)} {M : ab_M} {L L' : ab_L} {st st' : List Value} {m m' : dc_M} {it : ab_I} {Q : Option Value → dc_M → Prop}
theorem dw_gb {c : Prop} {dc : Decidable c} (hc : c) {T A : Type} (Φ : Option T → Option Value → dc_M → Prop) {F : Option A} {a : A → Option T} (rs : A → List Value) (mm : A → dc_M) (h1 : ab_at M.2.2.2.2.2 pc = some it) (h2 : ∀ k : dc_K, dc_one u C M.2.2.1 it pc L st m k = @ite _ c dc (F.bind (fun q => k pc' L (rs q) (mm q))) dc_kz) (kk : ∀ q, dc_lf u N M (Φ (a q)) (dc_nx u C S M n pc' L (rs q) (mm q))) : dc_lf u N M (Φ (F.bind a)) (dc_pm u C S M (n + 1) pc L st m) := by
  rw [dc_pm_s h1, h2, if_pos hc]
  cases F with
  | none => exact trivial
  | some q => exact kk q
end LWB
def C_J9_min_7cf53 : List (Nat × dc_H) := []
theorem CO_J9_min_7cf53 {u : Nat} : dc_CO u C_J9_min_7cf53 := dc_CO_nil
def S_J9_min_7cf53 : List (Nat × List Nat) := []
def d_J9_min_7cf53 (x0 : Int32) (x1 : Int32) (m : dc_M) : Int32 :=
  (if (Int32.toInt x1) < (Int32.toInt x0) then x1 else x0)
set_option maxHeartbeats 8000000 in
theorem k_J9_min_7cf53 {u : Nat} {N : Nat} {Φ : Int32 → Option Value → dc_M → Prop} (x0 : Int32) (x1 : Int32) (m : dc_M) (kR : ∀ (v : Int32), Φ (v) (some (.int v)) m)  {lv : ab_L} (f0 : ab_lk lv 0 = some (.int x0)) (f1 : ab_lk lv 1 = some (.int x1)) : dc_pv u N ab_M_J9_min_7cf53 0 lv [] m (Φ (d_J9_min_7cf53 x0 x1 m)) := by
  refine dc_pv.mono (dc_ok (C := C_J9_min_7cf53) (S := S_J9_min_7cf53) CO_J9_min_7cf53 400 0 [(0, .int x0), (1, .int x1)] lv [] m (dc_sub_cons f0 (dc_sub_cons f1 (dc_sub_nil))) ?_) (Nat.le_succ N)
  unfold d_J9_min_7cf53
  refine dg_s (pc' := 1) [.int x0] rfl (fun _ => rfl) rfl ?_
  refine dg_s (pc' := 2) [.int x1, .int x0] rfl (fun _ => rfl) rfl ?_
  refine dw_if (fun t => Φ t) ((Int32.toInt x1) < (Int32.toInt x0)) [] 9 5 rfl (fun _ => rfl) (fun c0 => ?_) (fun c0 => ?_)
  · refine dw_g rfl ?_
    refine dg_s (pc' := 10) [.int x1] rfl (fun _ => rfl) rfl ?_
    exact dw_r (some (.inl (some (.int x1), m))) rfl (fun _ => rfl) (kR _)
  · refine dw_g rfl ?_
    refine dg_s (pc' := 6) [.int x0] rfl (fun _ => rfl) rfl ?_
    refine dg_s (pc' := 10) [.int x0] rfl (fun _ => rfl) rfl ?_
    exact dw_r (some (.inl (some (.int x0), m))) rfl (fun _ => rfl) (kR _)
def H_J9_min_7cf53 : dc_H := fun As m k => match As with
  | [.int x0, .int x1] => k (some (.int (d_J9_min_7cf53 x0 x1 m))) m
  | _ => dc_kz
theorem H_J9_min_7cf53_ok {u : Nat} : dc_cok u 231 H_J9_min_7cf53 := fun M' hG N As m k P hz hP => by
  obtain rfl : ab_M_J9_min_7cf53 = M' := Option.some.inj hG
  unfold H_J9_min_7cf53 at hP
  split at hP
  · rename_i x0 x1
    exact dc_pv.imp (k_J9_min_7cf53 (Φ := fun (t : Int32) r m' => P (k (some (.int t)) m) → P (k r m')) x0 x1 m (fun _  h => h) rfl rfl) (fun r m' h => h hP)
  · exact absurd hP hz
def C_X1_hardest : List (Nat × dc_H) := []
theorem CO_X1_hardest {u : Nat} : dc_CO u C_X1_hardest := dc_CO_nil
def S_X1_hardest : List (Nat × List Nat) := [(2, [0, 1, 3])]
noncomputable def d_X1_hardest_l2b (x0 : Nat) (x1 : Int64) (x3 : Int32) (m : dc_M) : Option (Int32 ⊕ Int32) :=
  (if (Int32.toInt (m.1 x0 9)) ≤ (Int32.toInt x3) then some (Sum.inr ((0 : Int32))) else (if (Int32.toInt (lg_cmp ((((x1).toUInt64 >>> ((Int32.toInt64 (m.1 (x0 + 8) (Int32.toNatClampNeg x3))).toUInt64 &&& Int64.toUInt64 63)).toInt64) &&& (1 : Int64)) (0 : Int64))) = 0 then some (Sum.inl (x3 + (1 : Int32))) else some (Sum.inr ((m.1 (x0 + 8) (Int32.toNatClampNeg x3))))))
noncomputable def d_X1_hardest_l2s (x0 : Nat) (x1 : Int64) (m : dc_M) : Int32 → Option (Int32 ⊕ Int32) := fun s => d_X1_hardest_l2b x0 x1 s m
noncomputable def d_X1_hardest_l2 (x0 : Nat) (x1 : Int64) (x3 : Int32) (m : dc_M) : Option Int32 := dc_lp (d_X1_hardest_l2s x0 x1 m) x3
set_option maxHeartbeats 8000000 in
theorem k_X1_hardest_l2 {u : Nat} {Φ : (Option Int32) → Option Value → dc_M → Prop} (x0 : Nat) (x1 : Int64) (m : dc_M) (kR : ∀ (v : Int32), Φ (some (v)) (some (.int v)) m) : ∀ (N : Nat), ∀ (x3 : Int32) (lv : ab_L), ab_lk lv 0 = some (.ref x0) → ab_lk lv 1 = some (.long x1) → ab_lk lv 3 = some (.int x3) → dc_pv u N ab_M_X1_hardest 2 lv [] m (Φ (d_X1_hardest_l2 x0 x1 x3 m)) := by
  intro N
  induction N with
  | zero => intros; exact dc_pv_zero
  | succ N ih =>
    intro x3 lv f0 f1 f3
    refine dc_ok (C := C_X1_hardest) (S := S_X1_hardest) CO_X1_hardest 400 2 [(0, .ref x0), (1, .long x1), (3, .int x3)] lv [] m (dc_sub_cons f0 (dc_sub_cons f1 (dc_sub_cons f3 (dc_sub_nil)))) ?_
    unfold d_X1_hardest_l2
    rw [dc_lp_eq]
    show (fun t x => dc_lf u N ab_M_X1_hardest (Φ (Option.bind t (dc_bk (d_X1_hardest_l2s x0 x1 m)))) x) (d_X1_hardest_l2b x0 x1 x3 m) _
    dsimp only
    unfold d_X1_hardest_l2b
    refine dg_s (pc' := 3) [.int x3] rfl (fun _ => rfl) rfl ?_
    refine dg_s (pc' := 4) [.ref x0, .int x3] rfl (fun _ => rfl) rfl ?_
    refine dg_s (pc' := 7) [.int (m.1 x0 9), .int x3] rfl (fun _ => rfl) rfl ?_
    refine dw_if (fun t => Φ (Option.bind t (dc_bk (d_X1_hardest_l2s x0 x1 m)))) ((Int32.toInt (m.1 x0 9)) ≤ (Int32.toInt x3)) [] 38 10 rfl (fun _ => rfl) (fun c0 => ?_) (fun c0 => ?_)
    · refine dw_g rfl ?_
      refine dg_s (pc' := 39) [.int (0 : Int32)] rfl (fun _ => rfl) rfl ?_
      exact dw_r (some (.inl (some (.int (0 : Int32)), m))) rfl (fun _ => rfl) (kR _)
    · refine dw_g rfl ?_
      refine dg_s (pc' := 11) [.long x1] rfl (fun _ => rfl) rfl ?_
      refine dg_s (pc' := 12) [.ref x0, .long x1] rfl (fun _ => rfl) rfl ?_
      refine dg_s (pc' := 15) [.ref (x0 + 8), .long x1] rfl (fun _ => rfl) rfl ?_
      refine dg_s (pc' := 16) [.int x3, .ref (x0 + 8), .long x1] rfl (fun _ => rfl) rfl ?_
      refine dg_s (pc' := 17) [.int (m.1 (x0 + 8) (Int32.toNatClampNeg x3)), .long x1] rfl (fun _ => rfl) rfl ?_
      refine dg_s (pc' := 18) [.long (((x1).toUInt64 >>> ((Int32.toInt64 (m.1 (x0 + 8) (Int32.toNatClampNeg x3))).toUInt64 &&& Int64.toUInt64 63)).toInt64)] rfl (fun _ => rfl) rfl ?_
      refine dg_s (pc' := 19) [.long (1 : Int64), .long (((x1).toUInt64 >>> ((Int32.toInt64 (m.1 (x0 + 8) (Int32.toNatClampNeg x3))).toUInt64 &&& Int64.toUInt64 63)).toInt64)] rfl (fun _ => rfl) rfl ?_
      refine dg_s (pc' := 20) [.long ((((x1).toUInt64 >>> ((Int32.toInt64 (m.1 (x0 + 8) (Int32.toNatClampNeg x3))).toUInt64 &&& Int64.toUInt64 63)).toInt64) &&& (1 : Int64))] rfl (fun _ => rfl) rfl ?_
      refine dg_s (pc' := 21) [.long (0 : Int64), .long ((((x1).toUInt64 >>> ((Int32.toInt64 (m.1 (x0 + 8) (Int32.toNatClampNeg x3))).toUInt64 &&& Int64.toUInt64 63)).toInt64) &&& (1 : Int64))] rfl (fun _ => rfl) rfl ?_
      refine dg_s (pc' := 22) [.int (lg_cmp ((((x1).toUInt64 >>> ((Int32.toInt64 (m.1 (x0 + 8) (Int32.toNatClampNeg x3))).toUInt64 &&& Int64.toUInt64 63)).toInt64) &&& (1 : Int64)) (0 : Int64))] rfl (fun _ => rfl) rfl ?_
      refine dw_if (fun t => Φ (Option.bind t (dc_bk (d_X1_hardest_l2s x0 x1 m)))) ((Int32.toInt (lg_cmp ((((x1).toUInt64 >>> ((Int32.toInt64 (m.1 (x0 + 8) (Int32.toNatClampNeg x3))).toUInt64 &&& Int64.toUInt64 63)).toInt64) &&& (1 : Int64)) (0 : Int64))) = 0) [] 32 25 rfl (fun _ => rfl) (fun c1 => ?_) (fun c1 => ?_)
      · refine dw_g rfl ?_
        refine dg_L (pc' := 35) [(3, .int (x3 + (1 : Int32))), (0, .ref x0), (1, .long x1)] [] rfl (fun _ => rfl) rfl ?_
        refine dw_s (pc' := 2) [] rfl (fun _ => rfl) ?_
        exact dw_j rfl (fun lv1 hv => ih (x3 + (1 : Int32)) lv1 (hv.1 _ rfl) (hv.2.1 _ rfl) (hv.2.2.1 _ rfl))
      · refine dw_g rfl ?_
        refine dg_s (pc' := 26) [.ref x0] rfl (fun _ => rfl) rfl ?_
        refine dg_s (pc' := 29) [.ref (x0 + 8)] rfl (fun _ => rfl) rfl ?_
        refine dg_s (pc' := 30) [.int x3, .ref (x0 + 8)] rfl (fun _ => rfl) rfl ?_
        refine dg_s (pc' := 31) [.int (m.1 (x0 + 8) (Int32.toNatClampNeg x3))] rfl (fun _ => rfl) rfl ?_
        exact dw_r (some (.inl (some (.int (m.1 (x0 + 8) (Int32.toNatClampNeg x3))), m))) rfl (fun _ => rfl) (kR _)
noncomputable def d_X1_hardest (x0 : Nat) (x1 : Int64) (m : dc_M) : Option Int32 :=
  (d_X1_hardest_l2 x0 x1 (0 : Int32) m)
set_option maxHeartbeats 8000000 in
theorem k_X1_hardest {u : Nat} {N : Nat} {Φ : (Option Int32) → Option Value → dc_M → Prop} (x0 : Nat) (x1 : Int64) (m : dc_M) (kR : ∀ (v : Int32), Φ (some (v)) (some (.int v)) m)  {lv : ab_L} (f0 : ab_lk lv 0 = some (.ref x0)) (f1 : ab_lk lv 1 = some (.long x1)) : dc_pv u N ab_M_X1_hardest 0 lv [] m (Φ (d_X1_hardest x0 x1 m)) := by
  refine dc_pv.mono (dc_ok (C := C_X1_hardest) (S := S_X1_hardest) CO_X1_hardest 400 0 [(0, .ref x0), (1, .long x1)] lv [] m (dc_sub_cons f0 (dc_sub_cons f1 (dc_sub_nil))) ?_) (Nat.le_succ N)
  unfold d_X1_hardest
  refine dg_s (pc' := 1) [.int (0 : Int32)] rfl (fun _ => rfl) rfl ?_
  refine dw_L (pc' := 2) [(3, .int (0 : Int32)), (0, .ref x0), (1, .long x1)] [] rfl (fun _ => rfl) ?_
  exact dw_j rfl (fun lv1 hv => k_X1_hardest_l2 (Φ := (fun t => Φ t)) x0 x1 m (fun _a  => kR _a) N  (0 : Int32) lv1 (hv.1 _ rfl) (hv.2.1 _ rfl) (hv.2.2.1 _ rfl))
noncomputable def H_X1_hardest : dc_H := fun As m k => match As with
  | [.ref x0, .long x1] => (d_X1_hardest x0 x1 m).bind (fun q => k (some (.int q)) m)
  | _ => dc_kz
theorem H_X1_hardest_ok {u : Nat} : dc_cok u 15 H_X1_hardest := fun M' hG N As m k P hz hP => by
  obtain rfl : ab_M_X1_hardest = M' := Option.some.inj hG
  unfold H_X1_hardest at hP
  split at hP
  · rename_i x0 x1
    exact dc_pv.imp (k_X1_hardest (Φ := fun (t : Option Int32) r m' => P (t.bind (fun q => k (some (.int q)) m)) → P (k r m')) x0 x1 m (fun _  h => h) rfl rfl) (fun r m' h => h hP)
  · exact absurd hP hz
def C_X1_isOutdone : List (Nat × dc_H) := []
theorem CO_X1_isOutdone {u : Nat} : dc_CO u C_X1_isOutdone := dc_CO_nil
def S_X1_isOutdone : List (Nat × List Nat) := [(13, [0, 1, 2, 3, 5, 7]), (118, [0, 1, 2, 3, 5, 7])]
noncomputable def d_X1_isOutdone_b118 (x0 : Nat) (x1 : Int32) (x2 : Int32) (x3 : Int64) (x5 : Int64) (x7 : Int32) (s0 : Int32) (m : dc_M) : Option (Int32 ⊕ Int32) :=
  (if (Int32.toInt s0) = 0 then some (Sum.inr ((1 : Int32))) else (if (Int32.toInt x1) ≤ (Int32.toInt x7) then some (Sum.inl (x7 + (1 : Int32))) else some (Sum.inr ((1 : Int32)))))
set_option maxHeartbeats 8000000 in
theorem k_X1_isOutdone_b118 {u : Nat} {N : Nat} {Φ : (Option (Int32 ⊕ Int32)) → Option Value → dc_M → Prop} (x0 : Nat) (x1 : Int32) (x2 : Int32) (x3 : Int64) (x5 : Int64) (x7 : Int32) (s0 : Int32) (m : dc_M) (kR : ∀ (v : Int32), Φ (some (Sum.inr (v))) (some (.int v)) m) (k13 : ∀ (x7 : Int32) (lv : ab_L), ab_lk lv 0 = some (.ref x0) → ab_lk lv 1 = some (.int x1) → ab_lk lv 2 = some (.int x2) → ab_lk lv 3 = some (.long x3) → ab_lk lv 5 = some (.long x5) → ab_lk lv 7 = some (.int x7) →  dc_pv u N ab_M_X1_isOutdone 13 lv [] m (Φ (some (Sum.inl x7)))) {lv : ab_L} (f0 : ab_lk lv 0 = some (.ref x0)) (f1 : ab_lk lv 1 = some (.int x1)) (f2 : ab_lk lv 2 = some (.int x2)) (f3 : ab_lk lv 3 = some (.long x3)) (f5 : ab_lk lv 5 = some (.long x5)) (f7 : ab_lk lv 7 = some (.int x7)) : dc_pv u N ab_M_X1_isOutdone 118 lv [.int s0] m (Φ (d_X1_isOutdone_b118 x0 x1 x2 x3 x5 x7 s0 m)) := by
  refine dc_pv.mono (dc_ok (C := C_X1_isOutdone) (S := S_X1_isOutdone) CO_X1_isOutdone 400 118 [(0, .ref x0), (1, .int x1), (2, .int x2), (3, .long x3), (5, .long x5), (7, .int x7)] lv [.int s0] m (dc_sub_cons f0 (dc_sub_cons f1 (dc_sub_cons f2 (dc_sub_cons f3 (dc_sub_cons f5 (dc_sub_cons f7 (dc_sub_nil))))))) ?_) (Nat.le_succ N)
  unfold d_X1_isOutdone_b118
  refine dg_L (pc' := 120) [(8, .int s0), (0, .ref x0), (1, .int x1), (2, .int x2), (3, .long x3), (5, .long x5), (7, .int x7)] [] rfl (fun _ => rfl) rfl ?_
  refine dg_s (pc' := 122) [.int s0] rfl (fun _ => rfl) rfl ?_
  refine dw_if (fun t => Φ t) ((Int32.toInt s0) = 0) [] 131 125 rfl (fun _ => rfl) (fun c0 => ?_) (fun c0 => ?_)
  · refine dw_g rfl ?_
    refine dg_s (pc' := 132) [.int (1 : Int32)] rfl (fun _ => rfl) rfl ?_
    exact dw_r (some (.inl (some (.int (1 : Int32)), m))) rfl (fun _ => rfl) (kR _)
  · refine dw_g rfl ?_
    refine dg_s (pc' := 127) [.int x7] rfl (fun _ => rfl) rfl ?_
    refine dg_s (pc' := 128) [.int x1, .int x7] rfl (fun _ => rfl) rfl ?_
    refine dw_if (fun t => Φ t) ((Int32.toInt x1) ≤ (Int32.toInt x7)) [] 133 131 rfl (fun _ => rfl) (fun c1 => ?_) (fun c1 => ?_)
    · refine dw_g rfl ?_
      refine dg_L (pc' := 136) [(7, .int (x7 + (1 : Int32))), (8, .int s0), (0, .ref x0), (1, .int x1), (2, .int x2), (3, .long x3), (5, .long x5)] [] rfl (fun _ => rfl) rfl ?_
      refine dw_s (pc' := 13) [] rfl (fun _ => rfl) ?_
      exact dw_j rfl (fun lv1 hv => k13 (x7 + (1 : Int32)) lv1 (hv.1 _ rfl) (hv.2.1 _ rfl) (hv.2.2.1 _ rfl) (hv.2.2.2.1 _ rfl) (hv.2.2.2.2.1 _ rfl) (hv.2.2.2.2.2.1 _ rfl))
    · refine dw_g rfl ?_
      refine dg_s (pc' := 132) [.int (1 : Int32)] rfl (fun _ => rfl) rfl ?_
      exact dw_r (some (.inl (some (.int (1 : Int32)), m))) rfl (fun _ => rfl) (kR _)
noncomputable def d_X1_isOutdone_l13b (x0 : Nat) (x1 : Int32) (x2 : Int32) (x3 : Int64) (x5 : Int64) (x7 : Int32) (m : dc_M) : Option (Int32 ⊕ Int32) :=
  (if (Int32.toInt (m.1 x0 1)) ≤ (Int32.toInt x7) then some (Sum.inr ((0 : Int32))) else (if (Int32.toInt x7) = (Int32.toInt x1) then some (Sum.inl (x7 + (1 : Int32))) else (if (Int32.toInt (lg_cmp (((((m.2.1 (x0 + 4) (Int32.toNatClampNeg x7))).toUInt64 >>> ((Int32.toInt64 x2).toUInt64 &&& Int64.toUInt64 63)).toInt64) &&& (1 : Int64)) (0 : Int64))) = 0 then some (Sum.inl (x7 + (1 : Int32))) else (if ¬ (Int32.toInt (lg_cmp (x5 &&& ((m.2.1 (x0 + 4) (Int32.toNatClampNeg x7)) ^^^ (-1 : Int64))) (0 : Int64))) = 0 then some (Sum.inl (x7 + (1 : Int32))) else (if (Int32.toInt (m.1 (x0 + 3) (Int32.toNatClampNeg x7))) ≤ (Int32.toInt (m.1 (x0 + 3) (Int32.toNatClampNeg x1))) then (if ¬ (Int32.toInt (m.1 (x0 + 3) (Int32.toNatClampNeg x7))) = (Int32.toInt (m.1 (x0 + 3) (Int32.toNatClampNeg x1))) then (d_X1_isOutdone_b118 x0 x1 x2 x3 x5 x7 (0 : Int32) m) else (if ¬ (Int32.toInt (lg_cmp ((m.2.1 (x0 + 4) (Int32.toNatClampNeg x7)) &&& x3) x5)) = 0 then (d_X1_isOutdone_b118 x0 x1 x2 x3 x5 x7 (0 : Int32) m) else (d_X1_isOutdone_b118 x0 x1 x2 x3 x5 x7 (1 : Int32) m))) else some (Sum.inl (x7 + (1 : Int32))))))))
noncomputable def d_X1_isOutdone_l13s (x0 : Nat) (x1 : Int32) (x2 : Int32) (x3 : Int64) (x5 : Int64) (m : dc_M) : Int32 → Option (Int32 ⊕ Int32) := fun s => d_X1_isOutdone_l13b x0 x1 x2 x3 x5 s m
noncomputable def d_X1_isOutdone_l13 (x0 : Nat) (x1 : Int32) (x2 : Int32) (x3 : Int64) (x5 : Int64) (x7 : Int32) (m : dc_M) : Option Int32 := dc_lp (d_X1_isOutdone_l13s x0 x1 x2 x3 x5 m) x7
set_option maxHeartbeats 8000000 in
theorem k_X1_isOutdone_l13 {u : Nat} {Φ : (Option Int32) → Option Value → dc_M → Prop} (x0 : Nat) (x1 : Int32) (x2 : Int32) (x3 : Int64) (x5 : Int64) (m : dc_M) (kR : ∀ (v : Int32), Φ (some (v)) (some (.int v)) m) : ∀ (N : Nat), ∀ (x7 : Int32) (lv : ab_L), ab_lk lv 0 = some (.ref x0) → ab_lk lv 1 = some (.int x1) → ab_lk lv 2 = some (.int x2) → ab_lk lv 3 = some (.long x3) → ab_lk lv 5 = some (.long x5) → ab_lk lv 7 = some (.int x7) → dc_pv u N ab_M_X1_isOutdone 13 lv [] m (Φ (d_X1_isOutdone_l13 x0 x1 x2 x3 x5 x7 m)) := by
  intro N
  induction N with
  | zero => intros; exact dc_pv_zero
  | succ N ih =>
    intro x7 lv f0 f1 f2 f3 f5 f7
    refine dc_ok (C := C_X1_isOutdone) (S := S_X1_isOutdone) CO_X1_isOutdone 400 13 [(0, .ref x0), (1, .int x1), (2, .int x2), (3, .long x3), (5, .long x5), (7, .int x7)] lv [] m (dc_sub_cons f0 (dc_sub_cons f1 (dc_sub_cons f2 (dc_sub_cons f3 (dc_sub_cons f5 (dc_sub_cons f7 (dc_sub_nil))))))) ?_
    unfold d_X1_isOutdone_l13
    rw [dc_lp_eq]
    show (fun t x => dc_lf u N ab_M_X1_isOutdone (Φ (Option.bind t (dc_bk (d_X1_isOutdone_l13s x0 x1 x2 x3 x5 m)))) x) (d_X1_isOutdone_l13b x0 x1 x2 x3 x5 x7 m) _
    dsimp only
    unfold d_X1_isOutdone_l13b
    refine dg_s (pc' := 15) [.int x7] rfl (fun _ => rfl) rfl ?_
    refine dg_s (pc' := 16) [.ref x0, .int x7] rfl (fun _ => rfl) rfl ?_
    refine dg_s (pc' := 19) [.int (m.1 x0 1), .int x7] rfl (fun _ => rfl) rfl ?_
    refine dw_if (fun t => Φ (Option.bind t (dc_bk (d_X1_isOutdone_l13s x0 x1 x2 x3 x5 m)))) ((Int32.toInt (m.1 x0 1)) ≤ (Int32.toInt x7)) [] 139 22 rfl (fun _ => rfl) (fun c0 => ?_) (fun c0 => ?_)
    · refine dw_g rfl ?_
      refine dg_s (pc' := 140) [.int (0 : Int32)] rfl (fun _ => rfl) rfl ?_
      exact dw_r (some (.inl (some (.int (0 : Int32)), m))) rfl (fun _ => rfl) (kR _)
    · refine dw_g rfl ?_
      refine dg_s (pc' := 24) [.int x7] rfl (fun _ => rfl) rfl ?_
      refine dg_s (pc' := 25) [.int x1, .int x7] rfl (fun _ => rfl) rfl ?_
      refine dw_if (fun t => Φ (Option.bind t (dc_bk (d_X1_isOutdone_l13s x0 x1 x2 x3 x5 m)))) ((Int32.toInt x7) = (Int32.toInt x1)) [] 133 28 rfl (fun _ => rfl) (fun c1 => ?_) (fun c1 => ?_)
      · refine dw_g rfl ?_
        refine dg_L (pc' := 136) [(7, .int (x7 + (1 : Int32))), (0, .ref x0), (1, .int x1), (2, .int x2), (3, .long x3), (5, .long x5)] [] rfl (fun _ => rfl) rfl ?_
        refine dw_s (pc' := 13) [] rfl (fun _ => rfl) ?_
        exact dw_j rfl (fun lv1 hv => ih (x7 + (1 : Int32)) lv1 (hv.1 _ rfl) (hv.2.1 _ rfl) (hv.2.2.1 _ rfl) (hv.2.2.2.1 _ rfl) (hv.2.2.2.2.1 _ rfl) (hv.2.2.2.2.2.1 _ rfl))
      · refine dw_g rfl ?_
        refine dg_s (pc' := 29) [.ref x0] rfl (fun _ => rfl) rfl ?_
        refine dg_s (pc' := 32) [.ref (x0 + 4)] rfl (fun _ => rfl) rfl ?_
        refine dg_s (pc' := 34) [.int x7, .ref (x0 + 4)] rfl (fun _ => rfl) rfl ?_
        refine dg_s (pc' := 35) [.long (m.2.1 (x0 + 4) (Int32.toNatClampNeg x7))] rfl (fun _ => rfl) rfl ?_
        refine dg_s (pc' := 36) [.int x2, .long (m.2.1 (x0 + 4) (Int32.toNatClampNeg x7))] rfl (fun _ => rfl) rfl ?_
        refine dg_s (pc' := 37) [.long ((((m.2.1 (x0 + 4) (Int32.toNatClampNeg x7))).toUInt64 >>> ((Int32.toInt64 x2).toUInt64 &&& Int64.toUInt64 63)).toInt64)] rfl (fun _ => rfl) rfl ?_
        refine dg_s (pc' := 38) [.long (1 : Int64), .long ((((m.2.1 (x0 + 4) (Int32.toNatClampNeg x7))).toUInt64 >>> ((Int32.toInt64 x2).toUInt64 &&& Int64.toUInt64 63)).toInt64)] rfl (fun _ => rfl) rfl ?_
        refine dg_s (pc' := 39) [.long (((((m.2.1 (x0 + 4) (Int32.toNatClampNeg x7))).toUInt64 >>> ((Int32.toInt64 x2).toUInt64 &&& Int64.toUInt64 63)).toInt64) &&& (1 : Int64))] rfl (fun _ => rfl) rfl ?_
        refine dg_s (pc' := 40) [.long (0 : Int64), .long (((((m.2.1 (x0 + 4) (Int32.toNatClampNeg x7))).toUInt64 >>> ((Int32.toInt64 x2).toUInt64 &&& Int64.toUInt64 63)).toInt64) &&& (1 : Int64))] rfl (fun _ => rfl) rfl ?_
        refine dg_s (pc' := 41) [.int (lg_cmp (((((m.2.1 (x0 + 4) (Int32.toNatClampNeg x7))).toUInt64 >>> ((Int32.toInt64 x2).toUInt64 &&& Int64.toUInt64 63)).toInt64) &&& (1 : Int64)) (0 : Int64))] rfl (fun _ => rfl) rfl ?_
        refine dw_if (fun t => Φ (Option.bind t (dc_bk (d_X1_isOutdone_l13s x0 x1 x2 x3 x5 m)))) ((Int32.toInt (lg_cmp (((((m.2.1 (x0 + 4) (Int32.toNatClampNeg x7))).toUInt64 >>> ((Int32.toInt64 x2).toUInt64 &&& Int64.toUInt64 63)).toInt64) &&& (1 : Int64)) (0 : Int64))) = 0) [] 133 44 rfl (fun _ => rfl) (fun c2 => ?_) (fun c2 => ?_)
        · refine dw_g rfl ?_
          refine dg_L (pc' := 136) [(7, .int (x7 + (1 : Int32))), (0, .ref x0), (1, .int x1), (2, .int x2), (3, .long x3), (5, .long x5)] [] rfl (fun _ => rfl) rfl ?_
          refine dw_s (pc' := 13) [] rfl (fun _ => rfl) ?_
          exact dw_j rfl (fun lv1 hv => ih (x7 + (1 : Int32)) lv1 (hv.1 _ rfl) (hv.2.1 _ rfl) (hv.2.2.1 _ rfl) (hv.2.2.2.1 _ rfl) (hv.2.2.2.2.1 _ rfl) (hv.2.2.2.2.2.1 _ rfl))
        · refine dw_g rfl ?_
          refine dg_s (pc' := 46) [.long x5] rfl (fun _ => rfl) rfl ?_
          refine dg_s (pc' := 47) [.ref x0, .long x5] rfl (fun _ => rfl) rfl ?_
          refine dg_s (pc' := 50) [.ref (x0 + 4), .long x5] rfl (fun _ => rfl) rfl ?_
          refine dg_s (pc' := 52) [.int x7, .ref (x0 + 4), .long x5] rfl (fun _ => rfl) rfl ?_
          refine dg_s (pc' := 53) [.long (m.2.1 (x0 + 4) (Int32.toNatClampNeg x7)), .long x5] rfl (fun _ => rfl) rfl ?_
          refine dg_s (pc' := 56) [.long (-1 : Int64), .long (m.2.1 (x0 + 4) (Int32.toNatClampNeg x7)), .long x5] rfl (fun _ => rfl) rfl ?_
          refine dg_s (pc' := 57) [.long ((m.2.1 (x0 + 4) (Int32.toNatClampNeg x7)) ^^^ (-1 : Int64)), .long x5] rfl (fun _ => rfl) rfl ?_
          refine dg_s (pc' := 58) [.long (x5 &&& ((m.2.1 (x0 + 4) (Int32.toNatClampNeg x7)) ^^^ (-1 : Int64)))] rfl (fun _ => rfl) rfl ?_
          refine dg_s (pc' := 59) [.long (0 : Int64), .long (x5 &&& ((m.2.1 (x0 + 4) (Int32.toNatClampNeg x7)) ^^^ (-1 : Int64)))] rfl (fun _ => rfl) rfl ?_
          refine dg_s (pc' := 60) [.int (lg_cmp (x5 &&& ((m.2.1 (x0 + 4) (Int32.toNatClampNeg x7)) ^^^ (-1 : Int64))) (0 : Int64))] rfl (fun _ => rfl) rfl ?_
          refine dw_if (fun t => Φ (Option.bind t (dc_bk (d_X1_isOutdone_l13s x0 x1 x2 x3 x5 m)))) (¬ (Int32.toInt (lg_cmp (x5 &&& ((m.2.1 (x0 + 4) (Int32.toNatClampNeg x7)) ^^^ (-1 : Int64))) (0 : Int64))) = 0) [] 133 63 rfl (fun _ => rfl) (fun c3 => ?_) (fun c3 => ?_)
          · refine dw_g rfl ?_
            refine dg_L (pc' := 136) [(7, .int (x7 + (1 : Int32))), (0, .ref x0), (1, .int x1), (2, .int x2), (3, .long x3), (5, .long x5)] [] rfl (fun _ => rfl) rfl ?_
            refine dw_s (pc' := 13) [] rfl (fun _ => rfl) ?_
            exact dw_j rfl (fun lv1 hv => ih (x7 + (1 : Int32)) lv1 (hv.1 _ rfl) (hv.2.1 _ rfl) (hv.2.2.1 _ rfl) (hv.2.2.2.1 _ rfl) (hv.2.2.2.2.1 _ rfl) (hv.2.2.2.2.2.1 _ rfl))
          · refine dw_g rfl ?_
            refine dg_s (pc' := 64) [.ref x0] rfl (fun _ => rfl) rfl ?_
            refine dg_s (pc' := 67) [.ref (x0 + 3)] rfl (fun _ => rfl) rfl ?_
            refine dg_s (pc' := 69) [.int x7, .ref (x0 + 3)] rfl (fun _ => rfl) rfl ?_
            refine dg_s (pc' := 70) [.int (m.1 (x0 + 3) (Int32.toNatClampNeg x7))] rfl (fun _ => rfl) rfl ?_
            refine dg_s (pc' := 71) [.ref x0, .int (m.1 (x0 + 3) (Int32.toNatClampNeg x7))] rfl (fun _ => rfl) rfl ?_
            refine dg_s (pc' := 74) [.ref (x0 + 3), .int (m.1 (x0 + 3) (Int32.toNatClampNeg x7))] rfl (fun _ => rfl) rfl ?_
            refine dg_s (pc' := 75) [.int x1, .ref (x0 + 3), .int (m.1 (x0 + 3) (Int32.toNatClampNeg x7))] rfl (fun _ => rfl) rfl ?_
            refine dg_s (pc' := 76) [.int (m.1 (x0 + 3) (Int32.toNatClampNeg x1)), .int (m.1 (x0 + 3) (Int32.toNatClampNeg x7))] rfl (fun _ => rfl) rfl ?_
            refine dw_if (fun t => Φ (Option.bind t (dc_bk (d_X1_isOutdone_l13s x0 x1 x2 x3 x5 m)))) ((Int32.toInt (m.1 (x0 + 3) (Int32.toNatClampNeg x7))) ≤ (Int32.toInt (m.1 (x0 + 3) (Int32.toNatClampNeg x1)))) [] 82 79 rfl (fun _ => rfl) (fun c4 => ?_) (fun c4 => ?_)
            · refine dw_g rfl ?_
              refine dg_s (pc' := 83) [.ref x0] rfl (fun _ => rfl) rfl ?_
              refine dg_s (pc' := 86) [.ref (x0 + 3)] rfl (fun _ => rfl) rfl ?_
              refine dg_s (pc' := 88) [.int x7, .ref (x0 + 3)] rfl (fun _ => rfl) rfl ?_
              refine dg_s (pc' := 89) [.int (m.1 (x0 + 3) (Int32.toNatClampNeg x7))] rfl (fun _ => rfl) rfl ?_
              refine dg_s (pc' := 90) [.ref x0, .int (m.1 (x0 + 3) (Int32.toNatClampNeg x7))] rfl (fun _ => rfl) rfl ?_
              refine dg_s (pc' := 93) [.ref (x0 + 3), .int (m.1 (x0 + 3) (Int32.toNatClampNeg x7))] rfl (fun _ => rfl) rfl ?_
              refine dg_s (pc' := 94) [.int x1, .ref (x0 + 3), .int (m.1 (x0 + 3) (Int32.toNatClampNeg x7))] rfl (fun _ => rfl) rfl ?_
              refine dg_s (pc' := 95) [.int (m.1 (x0 + 3) (Int32.toNatClampNeg x1)), .int (m.1 (x0 + 3) (Int32.toNatClampNeg x7))] rfl (fun _ => rfl) rfl ?_
              refine dw_if (fun t => Φ (Option.bind t (dc_bk (d_X1_isOutdone_l13s x0 x1 x2 x3 x5 m)))) (¬ (Int32.toInt (m.1 (x0 + 3) (Int32.toNatClampNeg x7))) = (Int32.toInt (m.1 (x0 + 3) (Int32.toNatClampNeg x1)))) [] 117 98 rfl (fun _ => rfl) (fun c5 => ?_) (fun c5 => ?_)
              · refine dw_g rfl ?_
                refine dw_s (pc' := 118) [.int (0 : Int32)] rfl (fun _ => rfl) ?_
                exact dw_j rfl (fun lv1 hv => k_X1_isOutdone_b118 (Φ := (fun t => Φ (Option.bind t (dc_bk (d_X1_isOutdone_l13s x0 x1 x2 x3 x5 m))))) x0 x1 x2 x3 x5 x7 (0 : Int32) m (fun _a  => kR _a) ih (hv.1 _ rfl) (hv.2.1 _ rfl) (hv.2.2.1 _ rfl) (hv.2.2.2.1 _ rfl) (hv.2.2.2.2.1 _ rfl) (hv.2.2.2.2.2.1 _ rfl))
              · refine dw_g rfl ?_
                refine dg_s (pc' := 99) [.ref x0] rfl (fun _ => rfl) rfl ?_
                refine dg_s (pc' := 102) [.ref (x0 + 4)] rfl (fun _ => rfl) rfl ?_
                refine dg_s (pc' := 104) [.int x7, .ref (x0 + 4)] rfl (fun _ => rfl) rfl ?_
                refine dg_s (pc' := 105) [.long (m.2.1 (x0 + 4) (Int32.toNatClampNeg x7))] rfl (fun _ => rfl) rfl ?_
                refine dg_s (pc' := 106) [.long x3, .long (m.2.1 (x0 + 4) (Int32.toNatClampNeg x7))] rfl (fun _ => rfl) rfl ?_
                refine dg_s (pc' := 107) [.long ((m.2.1 (x0 + 4) (Int32.toNatClampNeg x7)) &&& x3)] rfl (fun _ => rfl) rfl ?_
                refine dg_s (pc' := 109) [.long x5, .long ((m.2.1 (x0 + 4) (Int32.toNatClampNeg x7)) &&& x3)] rfl (fun _ => rfl) rfl ?_
                refine dg_s (pc' := 110) [.int (lg_cmp ((m.2.1 (x0 + 4) (Int32.toNatClampNeg x7)) &&& x3) x5)] rfl (fun _ => rfl) rfl ?_
                refine dw_if (fun t => Φ (Option.bind t (dc_bk (d_X1_isOutdone_l13s x0 x1 x2 x3 x5 m)))) (¬ (Int32.toInt (lg_cmp ((m.2.1 (x0 + 4) (Int32.toNatClampNeg x7)) &&& x3) x5)) = 0) [] 117 113 rfl (fun _ => rfl) (fun c6 => ?_) (fun c6 => ?_)
                · refine dw_g rfl ?_
                  refine dw_s (pc' := 118) [.int (0 : Int32)] rfl (fun _ => rfl) ?_
                  exact dw_j rfl (fun lv1 hv => k_X1_isOutdone_b118 (Φ := (fun t => Φ (Option.bind t (dc_bk (d_X1_isOutdone_l13s x0 x1 x2 x3 x5 m))))) x0 x1 x2 x3 x5 x7 (0 : Int32) m (fun _a  => kR _a) ih (hv.1 _ rfl) (hv.2.1 _ rfl) (hv.2.2.1 _ rfl) (hv.2.2.2.1 _ rfl) (hv.2.2.2.2.1 _ rfl) (hv.2.2.2.2.2.1 _ rfl))
                · refine dw_g rfl ?_
                  refine dg_s (pc' := 114) [.int (1 : Int32)] rfl (fun _ => rfl) rfl ?_
                  refine dw_s (pc' := 118) [.int (1 : Int32)] rfl (fun _ => rfl) ?_
                  exact dw_j rfl (fun lv1 hv => k_X1_isOutdone_b118 (Φ := (fun t => Φ (Option.bind t (dc_bk (d_X1_isOutdone_l13s x0 x1 x2 x3 x5 m))))) x0 x1 x2 x3 x5 x7 (1 : Int32) m (fun _a  => kR _a) ih (hv.1 _ rfl) (hv.2.1 _ rfl) (hv.2.2.1 _ rfl) (hv.2.2.2.1 _ rfl) (hv.2.2.2.2.1 _ rfl) (hv.2.2.2.2.2.1 _ rfl))
            · refine dw_g rfl ?_
              refine dg_s (pc' := 133) [] rfl (fun _ => rfl) rfl ?_
              refine dg_L (pc' := 136) [(7, .int (x7 + (1 : Int32))), (0, .ref x0), (1, .int x1), (2, .int x2), (3, .long x3), (5, .long x5)] [] rfl (fun _ => rfl) rfl ?_
              refine dw_s (pc' := 13) [] rfl (fun _ => rfl) ?_
              exact dw_j rfl (fun lv1 hv => ih (x7 + (1 : Int32)) lv1 (hv.1 _ rfl) (hv.2.1 _ rfl) (hv.2.2.1 _ rfl) (hv.2.2.2.1 _ rfl) (hv.2.2.2.2.1 _ rfl) (hv.2.2.2.2.2.1 _ rfl))
noncomputable def d_X1_isOutdone (x0 : Nat) (x1 : Int32) (x2 : Int32) (x3 : Int64) (m : dc_M) : Option Int32 :=
  (d_X1_isOutdone_l13 x0 x1 x2 x3 ((m.2.1 (x0 + 4) (Int32.toNatClampNeg x1)) &&& x3) (0 : Int32) m)
set_option maxHeartbeats 8000000 in
theorem k_X1_isOutdone {u : Nat} {N : Nat} {Φ : (Option Int32) → Option Value → dc_M → Prop} (x0 : Nat) (x1 : Int32) (x2 : Int32) (x3 : Int64) (m : dc_M) (kR : ∀ (v : Int32), Φ (some (v)) (some (.int v)) m)  {lv : ab_L} (f0 : ab_lk lv 0 = some (.ref x0)) (f1 : ab_lk lv 1 = some (.int x1)) (f2 : ab_lk lv 2 = some (.int x2)) (f3 : ab_lk lv 3 = some (.long x3)) : dc_pv u N ab_M_X1_isOutdone 0 lv [] m (Φ (d_X1_isOutdone x0 x1 x2 x3 m)) := by
  refine dc_pv.mono (dc_ok (C := C_X1_isOutdone) (S := S_X1_isOutdone) CO_X1_isOutdone 400 0 [(0, .ref x0), (1, .int x1), (2, .int x2), (3, .long x3)] lv [] m (dc_sub_cons f0 (dc_sub_cons f1 (dc_sub_cons f2 (dc_sub_cons f3 (dc_sub_nil))))) ?_) (Nat.le_succ N)
  unfold d_X1_isOutdone
  refine dg_s (pc' := 1) [.ref x0] rfl (fun _ => rfl) rfl ?_
  refine dg_s (pc' := 4) [.ref (x0 + 4)] rfl (fun _ => rfl) rfl ?_
  refine dg_s (pc' := 5) [.int x1, .ref (x0 + 4)] rfl (fun _ => rfl) rfl ?_
  refine dg_s (pc' := 6) [.long (m.2.1 (x0 + 4) (Int32.toNatClampNeg x1))] rfl (fun _ => rfl) rfl ?_
  refine dg_s (pc' := 7) [.long x3, .long (m.2.1 (x0 + 4) (Int32.toNatClampNeg x1))] rfl (fun _ => rfl) rfl ?_
  refine dg_s (pc' := 8) [.long ((m.2.1 (x0 + 4) (Int32.toNatClampNeg x1)) &&& x3)] rfl (fun _ => rfl) rfl ?_
  refine dg_L (pc' := 10) [(5, .long ((m.2.1 (x0 + 4) (Int32.toNatClampNeg x1)) &&& x3)), (0, .ref x0), (1, .int x1), (2, .int x2), (3, .long x3)] [] rfl (fun _ => rfl) rfl ?_
  refine dg_s (pc' := 11) [.int (0 : Int32)] rfl (fun _ => rfl) rfl ?_
  refine dw_L (pc' := 13) [(7, .int (0 : Int32)), (5, .long ((m.2.1 (x0 + 4) (Int32.toNatClampNeg x1)) &&& x3)), (0, .ref x0), (1, .int x1), (2, .int x2), (3, .long x3)] [] rfl (fun _ => rfl) ?_
  exact dw_j rfl (fun lv1 hv => k_X1_isOutdone_l13 (Φ := (fun t => Φ t)) x0 x1 x2 x3 ((m.2.1 (x0 + 4) (Int32.toNatClampNeg x1)) &&& x3) m (fun _a  => kR _a) N  (0 : Int32) lv1 (hv.1 _ rfl) (hv.2.1 _ rfl) (hv.2.2.1 _ rfl) (hv.2.2.2.1 _ rfl) (hv.2.2.2.2.1 _ rfl) (hv.2.2.2.2.2.1 _ rfl))
noncomputable def H_X1_isOutdone : dc_H := fun As m k => match As with
  | [.ref x0, .int x1, .int x2, .long x3] => (d_X1_isOutdone x0 x1 x2 x3 m).bind (fun q => k (some (.int q)) m)
  | _ => dc_kz
theorem H_X1_isOutdone_ok {u : Nat} : dc_cok u 16 H_X1_isOutdone := fun M' hG N As m k P hz hP => by
  obtain rfl : ab_M_X1_isOutdone = M' := Option.some.inj hG
  unfold H_X1_isOutdone at hP
  split at hP
  · rename_i x0 x1 x2 x3
    exact dc_pv.imp (k_X1_isOutdone (Φ := fun (t : Option Int32) r m' => P (t.bind (fun q => k (some (.int q)) m)) → P (k r m')) x0 x1 x2 x3 m (fun _  h => h) rfl rfl rfl rfl) (fun r m' h => h hP)
  · exact absurd hP hz
def C_X1_weightAtLeast : List (Nat × dc_H) := []
theorem CO_X1_weightAtLeast {u : Nat} : dc_CO u C_X1_weightAtLeast := dc_CO_nil
def S_X1_weightAtLeast : List (Nat × List Nat) := [(8, [0, 3, 5, 6])]
noncomputable def d_X1_weightAtLeast_l8b (x0 : Nat) (x3 : Int64) (x5 : Int32) (x6 : Int32) (m : dc_M) : Option ((Int64 × Int32 × Int32) ⊕ Int32) :=
  (if (Int32.toInt (m.1 x0 9)) ≤ (Int32.toInt x6) then some (Sum.inr (x5)) else (if (Int32.toInt (lg_cmp x3 (0 : Int64))) = 0 then some (Sum.inr (x5)) else (if (Int32.toInt (lg_cmp ((((x3).toUInt64 >>> ((Int32.toInt64 (m.1 (x0 + 8) (Int32.toNatClampNeg x6))).toUInt64 &&& Int64.toUInt64 63)).toInt64) &&& (1 : Int64)) (0 : Int64))) = 0 then some (Sum.inl (x3, x5, (x6 + (1 : Int32)))) else some (Sum.inl ((x3 &&& ((m.2.1 (x0 + 7) (Int32.toNatClampNeg (m.1 (x0 + 8) (Int32.toNatClampNeg x6)))) ^^^ (-1 : Int64))), (x5 + (m.1 (x0 + 6) (Int32.toNatClampNeg (m.1 (x0 + 8) (Int32.toNatClampNeg x6))))), (x6 + (1 : Int32)))))))
noncomputable def d_X1_weightAtLeast_l8s (x0 : Nat) (m : dc_M) : (Int64 × Int32 × Int32) → Option ((Int64 × Int32 × Int32) ⊕ Int32) := fun s => d_X1_weightAtLeast_l8b x0 s.1 s.2.1 s.2.2 m
noncomputable def d_X1_weightAtLeast_l8 (x0 : Nat) (x3 : Int64) (x5 : Int32) (x6 : Int32) (m : dc_M) : Option Int32 := dc_lp (d_X1_weightAtLeast_l8s x0 m) (x3, x5, x6)
set_option maxHeartbeats 8000000 in
theorem k_X1_weightAtLeast_l8 {u : Nat} {Φ : (Option Int32) → Option Value → dc_M → Prop} (x0 : Nat) (m : dc_M) (kR : ∀ (v : Int32), Φ (some (v)) (some (.int v)) m) : ∀ (N : Nat), ∀ (x3 : Int64) (x5 : Int32) (x6 : Int32) (lv : ab_L), ab_lk lv 0 = some (.ref x0) → ab_lk lv 3 = some (.long x3) → ab_lk lv 5 = some (.int x5) → ab_lk lv 6 = some (.int x6) → dc_pv u N ab_M_X1_weightAtLeast 8 lv [] m (Φ (d_X1_weightAtLeast_l8 x0 x3 x5 x6 m)) := by
  intro N
  induction N with
  | zero => intros; exact dc_pv_zero
  | succ N ih =>
    intro x3 x5 x6 lv f0 f3 f5 f6
    refine dc_ok (C := C_X1_weightAtLeast) (S := S_X1_weightAtLeast) CO_X1_weightAtLeast 400 8 [(0, .ref x0), (3, .long x3), (5, .int x5), (6, .int x6)] lv [] m (dc_sub_cons f0 (dc_sub_cons f3 (dc_sub_cons f5 (dc_sub_cons f6 (dc_sub_nil))))) ?_
    unfold d_X1_weightAtLeast_l8
    rw [dc_lp_eq]
    show (fun t x => dc_lf u N ab_M_X1_weightAtLeast (Φ (Option.bind t (dc_bk (d_X1_weightAtLeast_l8s x0 m)))) x) (d_X1_weightAtLeast_l8b x0 x3 x5 x6 m) _
    dsimp only
    unfold d_X1_weightAtLeast_l8b
    refine dg_s (pc' := 10) [.int x6] rfl (fun _ => rfl) rfl ?_
    refine dg_s (pc' := 11) [.ref x0, .int x6] rfl (fun _ => rfl) rfl ?_
    refine dg_s (pc' := 14) [.int (m.1 x0 9), .int x6] rfl (fun _ => rfl) rfl ?_
    refine dw_if (fun t => Φ (Option.bind t (dc_bk (d_X1_weightAtLeast_l8s x0 m)))) ((Int32.toInt (m.1 x0 9)) ≤ (Int32.toInt x6)) [] 75 17 rfl (fun _ => rfl) (fun c0 => ?_) (fun c0 => ?_)
    · refine dw_g rfl ?_
      refine dg_s (pc' := 77) [.int x5] rfl (fun _ => rfl) rfl ?_
      exact dw_r (some (.inl (some (.int x5), m))) rfl (fun _ => rfl) (kR _)
    · refine dw_g rfl ?_
      refine dg_s (pc' := 18) [.long x3] rfl (fun _ => rfl) rfl ?_
      refine dg_s (pc' := 19) [.long (0 : Int64), .long x3] rfl (fun _ => rfl) rfl ?_
      refine dg_s (pc' := 20) [.int (lg_cmp x3 (0 : Int64))] rfl (fun _ => rfl) rfl ?_
      refine dw_if (fun t => Φ (Option.bind t (dc_bk (d_X1_weightAtLeast_l8s x0 m)))) ((Int32.toInt (lg_cmp x3 (0 : Int64))) = 0) [] 75 23 rfl (fun _ => rfl) (fun c1 => ?_) (fun c1 => ?_)
      · refine dw_g rfl ?_
        refine dg_s (pc' := 77) [.int x5] rfl (fun _ => rfl) rfl ?_
        exact dw_r (some (.inl (some (.int x5), m))) rfl (fun _ => rfl) (kR _)
      · refine dw_g rfl ?_
        refine dg_s (pc' := 24) [.ref x0] rfl (fun _ => rfl) rfl ?_
        refine dg_s (pc' := 27) [.ref (x0 + 8)] rfl (fun _ => rfl) rfl ?_
        refine dg_s (pc' := 29) [.int x6, .ref (x0 + 8)] rfl (fun _ => rfl) rfl ?_
        refine dg_s (pc' := 30) [.int (m.1 (x0 + 8) (Int32.toNatClampNeg x6))] rfl (fun _ => rfl) rfl ?_
        refine dg_L (pc' := 32) [(7, .int (m.1 (x0 + 8) (Int32.toNatClampNeg x6))), (0, .ref x0), (3, .long x3), (5, .int x5), (6, .int x6)] [] rfl (fun _ => rfl) rfl ?_
        refine dg_s (pc' := 33) [.long x3] rfl (fun _ => rfl) rfl ?_
        refine dg_s (pc' := 35) [.int (m.1 (x0 + 8) (Int32.toNatClampNeg x6)), .long x3] rfl (fun _ => rfl) rfl ?_
        refine dg_s (pc' := 36) [.long (((x3).toUInt64 >>> ((Int32.toInt64 (m.1 (x0 + 8) (Int32.toNatClampNeg x6))).toUInt64 &&& Int64.toUInt64 63)).toInt64)] rfl (fun _ => rfl) rfl ?_
        refine dg_s (pc' := 37) [.long (1 : Int64), .long (((x3).toUInt64 >>> ((Int32.toInt64 (m.1 (x0 + 8) (Int32.toNatClampNeg x6))).toUInt64 &&& Int64.toUInt64 63)).toInt64)] rfl (fun _ => rfl) rfl ?_
        refine dg_s (pc' := 38) [.long ((((x3).toUInt64 >>> ((Int32.toInt64 (m.1 (x0 + 8) (Int32.toNatClampNeg x6))).toUInt64 &&& Int64.toUInt64 63)).toInt64) &&& (1 : Int64))] rfl (fun _ => rfl) rfl ?_
        refine dg_s (pc' := 39) [.long (0 : Int64), .long ((((x3).toUInt64 >>> ((Int32.toInt64 (m.1 (x0 + 8) (Int32.toNatClampNeg x6))).toUInt64 &&& Int64.toUInt64 63)).toInt64) &&& (1 : Int64))] rfl (fun _ => rfl) rfl ?_
        refine dg_s (pc' := 40) [.int (lg_cmp ((((x3).toUInt64 >>> ((Int32.toInt64 (m.1 (x0 + 8) (Int32.toNatClampNeg x6))).toUInt64 &&& Int64.toUInt64 63)).toInt64) &&& (1 : Int64)) (0 : Int64))] rfl (fun _ => rfl) rfl ?_
        refine dw_if (fun t => Φ (Option.bind t (dc_bk (d_X1_weightAtLeast_l8s x0 m)))) ((Int32.toInt (lg_cmp ((((x3).toUInt64 >>> ((Int32.toInt64 (m.1 (x0 + 8) (Int32.toNatClampNeg x6))).toUInt64 &&& Int64.toUInt64 63)).toInt64) &&& (1 : Int64)) (0 : Int64))) = 0) [] 69 43 rfl (fun _ => rfl) (fun c2 => ?_) (fun c2 => ?_)
        · refine dw_g rfl ?_
          refine dg_L (pc' := 72) [(6, .int (x6 + (1 : Int32))), (7, .int (m.1 (x0 + 8) (Int32.toNatClampNeg x6))), (0, .ref x0), (3, .long x3), (5, .int x5)] [] rfl (fun _ => rfl) rfl ?_
          refine dw_s (pc' := 8) [] rfl (fun _ => rfl) ?_
          exact dw_j rfl (fun lv1 hv => ih x3 x5 (x6 + (1 : Int32)) lv1 (hv.1 _ rfl) (hv.2.1 _ rfl) (hv.2.2.1 _ rfl) (hv.2.2.2.1 _ rfl))
        · refine dw_g rfl ?_
          refine dg_s (pc' := 45) [.int x5] rfl (fun _ => rfl) rfl ?_
          refine dg_s (pc' := 46) [.ref x0, .int x5] rfl (fun _ => rfl) rfl ?_
          refine dg_s (pc' := 49) [.ref (x0 + 6), .int x5] rfl (fun _ => rfl) rfl ?_
          refine dg_s (pc' := 51) [.int (m.1 (x0 + 8) (Int32.toNatClampNeg x6)), .ref (x0 + 6), .int x5] rfl (fun _ => rfl) rfl ?_
          refine dg_s (pc' := 52) [.int (m.1 (x0 + 6) (Int32.toNatClampNeg (m.1 (x0 + 8) (Int32.toNatClampNeg x6)))), .int x5] rfl (fun _ => rfl) rfl ?_
          refine dg_s (pc' := 53) [.int (x5 + (m.1 (x0 + 6) (Int32.toNatClampNeg (m.1 (x0 + 8) (Int32.toNatClampNeg x6)))))] rfl (fun _ => rfl) rfl ?_
          refine dg_L (pc' := 55) [(5, .int (x5 + (m.1 (x0 + 6) (Int32.toNatClampNeg (m.1 (x0 + 8) (Int32.toNatClampNeg x6)))))), (7, .int (m.1 (x0 + 8) (Int32.toNatClampNeg x6))), (0, .ref x0), (3, .long x3), (6, .int x6)] [] rfl (fun _ => rfl) rfl ?_
          refine dg_s (pc' := 56) [.long x3] rfl (fun _ => rfl) rfl ?_
          refine dg_s (pc' := 57) [.ref x0, .long x3] rfl (fun _ => rfl) rfl ?_
          refine dg_s (pc' := 60) [.ref (x0 + 7), .long x3] rfl (fun _ => rfl) rfl ?_
          refine dg_s (pc' := 62) [.int (m.1 (x0 + 8) (Int32.toNatClampNeg x6)), .ref (x0 + 7), .long x3] rfl (fun _ => rfl) rfl ?_
          refine dg_s (pc' := 63) [.long (m.2.1 (x0 + 7) (Int32.toNatClampNeg (m.1 (x0 + 8) (Int32.toNatClampNeg x6)))), .long x3] rfl (fun _ => rfl) rfl ?_
          refine dg_s (pc' := 66) [.long (-1 : Int64), .long (m.2.1 (x0 + 7) (Int32.toNatClampNeg (m.1 (x0 + 8) (Int32.toNatClampNeg x6)))), .long x3] rfl (fun _ => rfl) rfl ?_
          refine dg_s (pc' := 67) [.long ((m.2.1 (x0 + 7) (Int32.toNatClampNeg (m.1 (x0 + 8) (Int32.toNatClampNeg x6)))) ^^^ (-1 : Int64)), .long x3] rfl (fun _ => rfl) rfl ?_
          refine dg_s (pc' := 68) [.long (x3 &&& ((m.2.1 (x0 + 7) (Int32.toNatClampNeg (m.1 (x0 + 8) (Int32.toNatClampNeg x6)))) ^^^ (-1 : Int64)))] rfl (fun _ => rfl) rfl ?_
          refine dg_L (pc' := 69) [(3, .long (x3 &&& ((m.2.1 (x0 + 7) (Int32.toNatClampNeg (m.1 (x0 + 8) (Int32.toNatClampNeg x6)))) ^^^ (-1 : Int64)))), (5, .int (x5 + (m.1 (x0 + 6) (Int32.toNatClampNeg (m.1 (x0 + 8) (Int32.toNatClampNeg x6)))))), (7, .int (m.1 (x0 + 8) (Int32.toNatClampNeg x6))), (0, .ref x0), (6, .int x6)] [] rfl (fun _ => rfl) rfl ?_
          refine dg_L (pc' := 72) [(6, .int (x6 + (1 : Int32))), (3, .long (x3 &&& ((m.2.1 (x0 + 7) (Int32.toNatClampNeg (m.1 (x0 + 8) (Int32.toNatClampNeg x6)))) ^^^ (-1 : Int64)))), (5, .int (x5 + (m.1 (x0 + 6) (Int32.toNatClampNeg (m.1 (x0 + 8) (Int32.toNatClampNeg x6)))))), (7, .int (m.1 (x0 + 8) (Int32.toNatClampNeg x6))), (0, .ref x0)] [] rfl (fun _ => rfl) rfl ?_
          refine dw_s (pc' := 8) [] rfl (fun _ => rfl) ?_
          exact dw_j rfl (fun lv1 hv => ih (x3 &&& ((m.2.1 (x0 + 7) (Int32.toNatClampNeg (m.1 (x0 + 8) (Int32.toNatClampNeg x6)))) ^^^ (-1 : Int64))) (x5 + (m.1 (x0 + 6) (Int32.toNatClampNeg (m.1 (x0 + 8) (Int32.toNatClampNeg x6))))) (x6 + (1 : Int32)) lv1 (hv.1 _ rfl) (hv.2.1 _ rfl) (hv.2.2.1 _ rfl) (hv.2.2.2.1 _ rfl))
noncomputable def d_X1_weightAtLeast (x0 : Nat) (x1 : Int64) (m : dc_M) : Option Int32 :=
  (d_X1_weightAtLeast_l8 x0 x1 (0 : Int32) (0 : Int32) m)
set_option maxHeartbeats 8000000 in
theorem k_X1_weightAtLeast {u : Nat} {N : Nat} {Φ : (Option Int32) → Option Value → dc_M → Prop} (x0 : Nat) (x1 : Int64) (m : dc_M) (kR : ∀ (v : Int32), Φ (some (v)) (some (.int v)) m)  {lv : ab_L} (f0 : ab_lk lv 0 = some (.ref x0)) (f1 : ab_lk lv 1 = some (.long x1)) : dc_pv u N ab_M_X1_weightAtLeast 0 lv [] m (Φ (d_X1_weightAtLeast x0 x1 m)) := by
  refine dc_pv.mono (dc_ok (C := C_X1_weightAtLeast) (S := S_X1_weightAtLeast) CO_X1_weightAtLeast 400 0 [(0, .ref x0), (1, .long x1)] lv [] m (dc_sub_cons f0 (dc_sub_cons f1 (dc_sub_nil))) ?_) (Nat.le_succ N)
  unfold d_X1_weightAtLeast
  refine dg_s (pc' := 1) [.long x1] rfl (fun _ => rfl) rfl ?_
  refine dg_L (pc' := 2) [(3, .long x1), (0, .ref x0), (1, .long x1)] [] rfl (fun _ => rfl) rfl ?_
  refine dg_s (pc' := 3) [.int (0 : Int32)] rfl (fun _ => rfl) rfl ?_
  refine dg_L (pc' := 5) [(5, .int (0 : Int32)), (3, .long x1), (0, .ref x0), (1, .long x1)] [] rfl (fun _ => rfl) rfl ?_
  refine dg_s (pc' := 6) [.int (0 : Int32)] rfl (fun _ => rfl) rfl ?_
  refine dw_L (pc' := 8) [(6, .int (0 : Int32)), (5, .int (0 : Int32)), (3, .long x1), (0, .ref x0), (1, .long x1)] [] rfl (fun _ => rfl) ?_
  exact dw_j rfl (fun lv1 hv => k_X1_weightAtLeast_l8 (Φ := (fun t => Φ t)) x0 m (fun _a  => kR _a) N  x1 (0 : Int32) (0 : Int32) lv1 (hv.1 _ rfl) (hv.2.1 _ rfl) (hv.2.2.1 _ rfl) (hv.2.2.2.1 _ rfl))
noncomputable def H_X1_weightAtLeast : dc_H := fun As m k => match As with
  | [.ref x0, .long x1] => (d_X1_weightAtLeast x0 x1 m).bind (fun q => k (some (.int q)) m)
  | _ => dc_kz
theorem H_X1_weightAtLeast_ok {u : Nat} : dc_cok u 14 H_X1_weightAtLeast := fun M' hG N As m k P hz hP => by
  obtain rfl : ab_M_X1_weightAtLeast = M' := Option.some.inj hG
  unfold H_X1_weightAtLeast at hP
  split at hP
  · rename_i x0 x1
    exact dc_pv.imp (k_X1_weightAtLeast (Φ := fun (t : Option Int32) r m' => P (t.bind (fun q => k (some (.int q)) m)) → P (k r m')) x0 x1 m (fun _  h => h) rfl rfl) (fun r m' h => h hP)
  · exact absurd hP hz
noncomputable def C_X1_leastWeight (F : lw_T) (g : Int) : List (Nat × dc_H) := [(231, H_J9_min_7cf53), (13, lw_H F (g + 1)), (15, H_X1_hardest), (16, H_X1_isOutdone), (14, H_X1_weightAtLeast)]
theorem CO_X1_leastWeight {u : Nat} {F : lw_T} {g : Int} (hC : dc_cok u 13 (lw_H F (g + 1))) : dc_CO u (C_X1_leastWeight F g) := dc_CO_cons H_J9_min_7cf53_ok (dc_CO_cons hC (dc_CO_cons H_X1_hardest_ok (dc_CO_cons H_X1_isOutdone_ok (dc_CO_cons H_X1_weightAtLeast_ok (dc_CO_nil)))))
def S_X1_leastWeight : List (Nat × List Nat) := [(43, [0, 1, 4, 5, 6, 7])]
noncomputable def d_X1_leastWeight_l43b (F : lw_T) (x0 : Nat) (x1 : Int64) (x4 : Int32) (x5 : Int32) (x6 : Int32) (x7 : Int32) (m : dc_M) : Option ((Int32 × Int32) ⊕ Int32) :=
  (if (Int32.toInt (m.1 x0 1)) ≤ (Int32.toInt x7) then some (Sum.inr (x6)) else (if (Int32.toInt (lg_cmp (((((m.2.1 (x0 + 4) (Int32.toNatClampNeg x7))).toUInt64 >>> ((Int32.toInt64 x5).toUInt64 &&& Int64.toUInt64 63)).toInt64) &&& (1 : Int64)) (0 : Int64))) = 0 then some (Sum.inl (x6, (x7 + (1 : Int32)))) else ((d_X1_isOutdone x0 x7 x5 x1 m).bind (fun q1 => (if (Int32.toInt q1) = 0 then ((F x0 (x1 &&& ((m.2.1 (x0 + 4) (Int32.toNatClampNeg x7)) ^^^ (-1 : Int64))) ((x6 - (1 : Int32)) - (m.1 (x0 + 3) (Int32.toNatClampNeg x7))) (x4 + (1 : Int32)) m).bind (fun q2 => some (Sum.inl ((d_J9_min_7cf53 x6 (q2 + (m.1 (x0 + 3) (Int32.toNatClampNeg x7))) m), (x7 + (1 : Int32)))))) else some (Sum.inl (x6, (x7 + (1 : Int32)))))))))
noncomputable def d_X1_leastWeight_l43s (F : lw_T) (x0 : Nat) (x1 : Int64) (x4 : Int32) (x5 : Int32) (m : dc_M) : (Int32 × Int32) → Option ((Int32 × Int32) ⊕ Int32) := fun s => d_X1_leastWeight_l43b F x0 x1 x4 x5 s.1 s.2 m
noncomputable def d_X1_leastWeight_l43 (F : lw_T) (x0 : Nat) (x1 : Int64) (x4 : Int32) (x5 : Int32) (x6 : Int32) (x7 : Int32) (m : dc_M) : Option Int32 := dc_lp (d_X1_leastWeight_l43s F x0 x1 x4 x5 m) (x6, x7)
set_option maxHeartbeats 8000000 in
theorem k_X1_leastWeight_l43 {u : Nat} {F : lw_T} {g : Int} (hC : dc_cok u 13 (lw_H F (g + 1))) {Φ : (Option Int32) → Option Value → dc_M → Prop} (x0 : Nat) (x1 : Int64) (x4 : Int32) (x5 : Int32) (m : dc_M) (hg : g + 1 ≤ (x4 + 1).toInt) (kR : ∀ (v : Int32), Φ (some (v)) (some (.int v)) m) : ∀ (N : Nat), ∀ (x6 : Int32) (x7 : Int32) (lv : ab_L), ab_lk lv 0 = some (.ref x0) → ab_lk lv 1 = some (.long x1) → ab_lk lv 4 = some (.int x4) → ab_lk lv 5 = some (.int x5) → ab_lk lv 6 = some (.int x6) → ab_lk lv 7 = some (.int x7) → dc_pv u N ab_M_X1_leastWeight 43 lv [] m (Φ (d_X1_leastWeight_l43 F x0 x1 x4 x5 x6 x7 m)) := by
  intro N
  induction N with
  | zero => intros; exact dc_pv_zero
  | succ N ih =>
    intro x6 x7 lv f0 f1 f4 f5 f6 f7
    refine dc_ok (C := C_X1_leastWeight F g) (S := S_X1_leastWeight) (CO_X1_leastWeight hC) 400 43 [(0, .ref x0), (1, .long x1), (4, .int x4), (5, .int x5), (6, .int x6), (7, .int x7)] lv [] m (dc_sub_cons f0 (dc_sub_cons f1 (dc_sub_cons f4 (dc_sub_cons f5 (dc_sub_cons f6 (dc_sub_cons f7 (dc_sub_nil))))))) ?_
    unfold d_X1_leastWeight_l43
    rw [dc_lp_eq]
    show (fun t x => dc_lf u N ab_M_X1_leastWeight (Φ (Option.bind t (dc_bk (d_X1_leastWeight_l43s F x0 x1 x4 x5 m)))) x) (d_X1_leastWeight_l43b F x0 x1 x4 x5 x6 x7 m) _
    dsimp only
    unfold d_X1_leastWeight_l43b
    refine dg_s (pc' := 45) [.int x7] rfl (fun _ => rfl) rfl ?_
    refine dg_s (pc' := 46) [.ref x0, .int x7] rfl (fun _ => rfl) rfl ?_
    refine dg_s (pc' := 49) [.int (m.1 x0 1), .int x7] rfl (fun _ => rfl) rfl ?_
    refine dw_if (fun t => Φ (Option.bind t (dc_bk (d_X1_leastWeight_l43s F x0 x1 x4 x5 m)))) ((Int32.toInt (m.1 x0 1)) ≤ (Int32.toInt x7)) [] 142 52 rfl (fun _ => rfl) (fun c0 => ?_) (fun c0 => ?_)
    · refine dw_g rfl ?_
      refine dg_s (pc' := 144) [.int x6] rfl (fun _ => rfl) rfl ?_
      exact dw_r (some (.inl (some (.int x6), m))) rfl (fun _ => rfl) (kR _)
    · refine dw_g rfl ?_
      refine dg_s (pc' := 53) [.ref x0] rfl (fun _ => rfl) rfl ?_
      refine dg_s (pc' := 56) [.ref (x0 + 4)] rfl (fun _ => rfl) rfl ?_
      refine dg_s (pc' := 58) [.int x7, .ref (x0 + 4)] rfl (fun _ => rfl) rfl ?_
      refine dg_s (pc' := 59) [.long (m.2.1 (x0 + 4) (Int32.toNatClampNeg x7))] rfl (fun _ => rfl) rfl ?_
      refine dg_s (pc' := 61) [.int x5, .long (m.2.1 (x0 + 4) (Int32.toNatClampNeg x7))] rfl (fun _ => rfl) rfl ?_
      refine dg_s (pc' := 62) [.long ((((m.2.1 (x0 + 4) (Int32.toNatClampNeg x7))).toUInt64 >>> ((Int32.toInt64 x5).toUInt64 &&& Int64.toUInt64 63)).toInt64)] rfl (fun _ => rfl) rfl ?_
      refine dg_s (pc' := 63) [.long (1 : Int64), .long ((((m.2.1 (x0 + 4) (Int32.toNatClampNeg x7))).toUInt64 >>> ((Int32.toInt64 x5).toUInt64 &&& Int64.toUInt64 63)).toInt64)] rfl (fun _ => rfl) rfl ?_
      refine dg_s (pc' := 64) [.long (((((m.2.1 (x0 + 4) (Int32.toNatClampNeg x7))).toUInt64 >>> ((Int32.toInt64 x5).toUInt64 &&& Int64.toUInt64 63)).toInt64) &&& (1 : Int64))] rfl (fun _ => rfl) rfl ?_
      refine dg_s (pc' := 65) [.long (0 : Int64), .long (((((m.2.1 (x0 + 4) (Int32.toNatClampNeg x7))).toUInt64 >>> ((Int32.toInt64 x5).toUInt64 &&& Int64.toUInt64 63)).toInt64) &&& (1 : Int64))] rfl (fun _ => rfl) rfl ?_
      refine dg_s (pc' := 66) [.int (lg_cmp (((((m.2.1 (x0 + 4) (Int32.toNatClampNeg x7))).toUInt64 >>> ((Int32.toInt64 x5).toUInt64 &&& Int64.toUInt64 63)).toInt64) &&& (1 : Int64)) (0 : Int64))] rfl (fun _ => rfl) rfl ?_
      refine dw_if (fun t => Φ (Option.bind t (dc_bk (d_X1_leastWeight_l43s F x0 x1 x4 x5 m)))) ((Int32.toInt (lg_cmp (((((m.2.1 (x0 + 4) (Int32.toNatClampNeg x7))).toUInt64 >>> ((Int32.toInt64 x5).toUInt64 &&& Int64.toUInt64 63)).toInt64) &&& (1 : Int64)) (0 : Int64))) = 0) [] 136 69 rfl (fun _ => rfl) (fun c1 => ?_) (fun c1 => ?_)
      · refine dw_g rfl ?_
        refine dg_L (pc' := 139) [(7, .int (x7 + (1 : Int32))), (0, .ref x0), (1, .long x1), (4, .int x4), (5, .int x5), (6, .int x6)] [] rfl (fun _ => rfl) rfl ?_
        refine dw_s (pc' := 43) [] rfl (fun _ => rfl) ?_
        exact dw_j rfl (fun lv1 hv => ih x6 (x7 + (1 : Int32)) lv1 (hv.1 _ rfl) (hv.2.1 _ rfl) (hv.2.2.1 _ rfl) (hv.2.2.2.1 _ rfl) (hv.2.2.2.2.1 _ rfl) (hv.2.2.2.2.2.1 _ rfl))
      · refine dw_g rfl ?_
        refine dg_s (pc' := 70) [.ref x0] rfl (fun _ => rfl) rfl ?_
        refine dg_s (pc' := 72) [.int x7, .ref x0] rfl (fun _ => rfl) rfl ?_
        refine dg_s (pc' := 74) [.int x5, .int x7, .ref x0] rfl (fun _ => rfl) rfl ?_
        refine dg_s (pc' := 75) [.long x1, .int x5, .int x7, .ref x0] rfl (fun _ => rfl) rfl ?_
        refine dw_b (fun t => Φ (Option.bind t (dc_bk (d_X1_leastWeight_l43s F x0 x1 x4 x5 m)))) (pc' := 78) (fun q1 => [.int q1]) (fun q1 => m) rfl (fun _ => rfl) (fun q1 => ?_)
        refine dw_g rfl ?_
        refine dw_if (fun t => Φ (Option.bind t (dc_bk (d_X1_leastWeight_l43s F x0 x1 x4 x5 m)))) ((Int32.toInt q1) = 0) [] 84 81 rfl (fun _ => rfl) (fun c2 => ?_) (fun c2 => ?_)
        · refine dw_g rfl ?_
          refine dg_s (pc' := 85) [.ref x0] rfl (fun _ => rfl) rfl ?_
          refine dg_s (pc' := 86) [.long x1, .ref x0] rfl (fun _ => rfl) rfl ?_
          refine dg_s (pc' := 87) [.ref x0, .long x1, .ref x0] rfl (fun _ => rfl) rfl ?_
          refine dg_s (pc' := 90) [.ref (x0 + 4), .long x1, .ref x0] rfl (fun _ => rfl) rfl ?_
          refine dg_s (pc' := 92) [.int x7, .ref (x0 + 4), .long x1, .ref x0] rfl (fun _ => rfl) rfl ?_
          refine dg_s (pc' := 93) [.long (m.2.1 (x0 + 4) (Int32.toNatClampNeg x7)), .long x1, .ref x0] rfl (fun _ => rfl) rfl ?_
          refine dg_s (pc' := 96) [.long (-1 : Int64), .long (m.2.1 (x0 + 4) (Int32.toNatClampNeg x7)), .long x1, .ref x0] rfl (fun _ => rfl) rfl ?_
          refine dg_s (pc' := 97) [.long ((m.2.1 (x0 + 4) (Int32.toNatClampNeg x7)) ^^^ (-1 : Int64)), .long x1, .ref x0] rfl (fun _ => rfl) rfl ?_
          refine dg_s (pc' := 98) [.long (x1 &&& ((m.2.1 (x0 + 4) (Int32.toNatClampNeg x7)) ^^^ (-1 : Int64))), .ref x0] rfl (fun _ => rfl) rfl ?_
          refine dg_s (pc' := 100) [.int x6, .long (x1 &&& ((m.2.1 (x0 + 4) (Int32.toNatClampNeg x7)) ^^^ (-1 : Int64))), .ref x0] rfl (fun _ => rfl) rfl ?_
          refine dg_s (pc' := 101) [.int (1 : Int32), .int x6, .long (x1 &&& ((m.2.1 (x0 + 4) (Int32.toNatClampNeg x7)) ^^^ (-1 : Int64))), .ref x0] rfl (fun _ => rfl) rfl ?_
          refine dg_s (pc' := 102) [.int (x6 - (1 : Int32)), .long (x1 &&& ((m.2.1 (x0 + 4) (Int32.toNatClampNeg x7)) ^^^ (-1 : Int64))), .ref x0] rfl (fun _ => rfl) rfl ?_
          refine dg_s (pc' := 103) [.ref x0, .int (x6 - (1 : Int32)), .long (x1 &&& ((m.2.1 (x0 + 4) (Int32.toNatClampNeg x7)) ^^^ (-1 : Int64))), .ref x0] rfl (fun _ => rfl) rfl ?_
          refine dg_s (pc' := 106) [.ref (x0 + 3), .int (x6 - (1 : Int32)), .long (x1 &&& ((m.2.1 (x0 + 4) (Int32.toNatClampNeg x7)) ^^^ (-1 : Int64))), .ref x0] rfl (fun _ => rfl) rfl ?_
          refine dg_s (pc' := 108) [.int x7, .ref (x0 + 3), .int (x6 - (1 : Int32)), .long (x1 &&& ((m.2.1 (x0 + 4) (Int32.toNatClampNeg x7)) ^^^ (-1 : Int64))), .ref x0] rfl (fun _ => rfl) rfl ?_
          refine dg_s (pc' := 109) [.int (m.1 (x0 + 3) (Int32.toNatClampNeg x7)), .int (x6 - (1 : Int32)), .long (x1 &&& ((m.2.1 (x0 + 4) (Int32.toNatClampNeg x7)) ^^^ (-1 : Int64))), .ref x0] rfl (fun _ => rfl) rfl ?_
          refine dg_s (pc' := 110) [.int ((x6 - (1 : Int32)) - (m.1 (x0 + 3) (Int32.toNatClampNeg x7))), .long (x1 &&& ((m.2.1 (x0 + 4) (Int32.toNatClampNeg x7)) ^^^ (-1 : Int64))), .ref x0] rfl (fun _ => rfl) rfl ?_
          refine dg_s (pc' := 112) [.int x4, .int ((x6 - (1 : Int32)) - (m.1 (x0 + 3) (Int32.toNatClampNeg x7))), .long (x1 &&& ((m.2.1 (x0 + 4) (Int32.toNatClampNeg x7)) ^^^ (-1 : Int64))), .ref x0] rfl (fun _ => rfl) rfl ?_
          refine dg_s (pc' := 113) [.int (1 : Int32), .int x4, .int ((x6 - (1 : Int32)) - (m.1 (x0 + 3) (Int32.toNatClampNeg x7))), .long (x1 &&& ((m.2.1 (x0 + 4) (Int32.toNatClampNeg x7)) ^^^ (-1 : Int64))), .ref x0] rfl (fun _ => rfl) rfl ?_
          refine dg_s (pc' := 114) [.int (x4 + (1 : Int32)), .int ((x6 - (1 : Int32)) - (m.1 (x0 + 3) (Int32.toNatClampNeg x7))), .long (x1 &&& ((m.2.1 (x0 + 4) (Int32.toNatClampNeg x7)) ^^^ (-1 : Int64))), .ref x0] rfl (fun _ => rfl) rfl ?_
          refine dw_gb hg (fun t => Φ (Option.bind t (dc_bk (d_X1_leastWeight_l43s F x0 x1 x4 x5 m)))) (pc' := 117) (fun q2 => [.int q2]) (fun q2 => m) rfl (fun _ => rfl) (fun q2 => ?_)
          refine dw_g rfl ?_
          refine dg_L (pc' := 119) [(8, .int q2), (0, .ref x0), (1, .long x1), (4, .int x4), (5, .int x5), (6, .int x6), (7, .int x7)] [] rfl (fun _ => rfl) rfl ?_
          refine dg_s (pc' := 121) [.int x6] rfl (fun _ => rfl) rfl ?_
          refine dg_s (pc' := 123) [.int q2, .int x6] rfl (fun _ => rfl) rfl ?_
          refine dg_s (pc' := 124) [.ref x0, .int q2, .int x6] rfl (fun _ => rfl) rfl ?_
          refine dg_s (pc' := 127) [.ref (x0 + 3), .int q2, .int x6] rfl (fun _ => rfl) rfl ?_
          refine dg_s (pc' := 129) [.int x7, .ref (x0 + 3), .int q2, .int x6] rfl (fun _ => rfl) rfl ?_
          refine dg_s (pc' := 130) [.int (m.1 (x0 + 3) (Int32.toNatClampNeg x7)), .int q2, .int x6] rfl (fun _ => rfl) rfl ?_
          refine dg_s (pc' := 131) [.int (q2 + (m.1 (x0 + 3) (Int32.toNatClampNeg x7))), .int x6] rfl (fun _ => rfl) rfl ?_
          refine dg_s (pc' := 134) [.int (d_J9_min_7cf53 x6 (q2 + (m.1 (x0 + 3) (Int32.toNatClampNeg x7))) m)] rfl (fun _ => rfl) rfl ?_
          refine dg_L (pc' := 136) [(6, .int (d_J9_min_7cf53 x6 (q2 + (m.1 (x0 + 3) (Int32.toNatClampNeg x7))) m)), (8, .int q2), (0, .ref x0), (1, .long x1), (4, .int x4), (5, .int x5), (7, .int x7)] [] rfl (fun _ => rfl) rfl ?_
          refine dg_L (pc' := 139) [(7, .int (x7 + (1 : Int32))), (6, .int (d_J9_min_7cf53 x6 (q2 + (m.1 (x0 + 3) (Int32.toNatClampNeg x7))) m)), (8, .int q2), (0, .ref x0), (1, .long x1), (4, .int x4), (5, .int x5)] [] rfl (fun _ => rfl) rfl ?_
          refine dw_s (pc' := 43) [] rfl (fun _ => rfl) ?_
          exact dw_j rfl (fun lv1 hv => ih (d_J9_min_7cf53 x6 (q2 + (m.1 (x0 + 3) (Int32.toNatClampNeg x7))) m) (x7 + (1 : Int32)) lv1 (hv.1 _ rfl) (hv.2.1 _ rfl) (hv.2.2.1 _ rfl) (hv.2.2.2.1 _ rfl) (hv.2.2.2.2.1 _ rfl) (hv.2.2.2.2.2.1 _ rfl))
        · refine dw_g rfl ?_
          refine dg_s (pc' := 136) [] rfl (fun _ => rfl) rfl ?_
          refine dg_L (pc' := 139) [(7, .int (x7 + (1 : Int32))), (0, .ref x0), (1, .long x1), (4, .int x4), (5, .int x5), (6, .int x6)] [] rfl (fun _ => rfl) rfl ?_
          refine dw_s (pc' := 43) [] rfl (fun _ => rfl) ?_
          exact dw_j rfl (fun lv1 hv => ih x6 (x7 + (1 : Int32)) lv1 (hv.1 _ rfl) (hv.2.1 _ rfl) (hv.2.2.1 _ rfl) (hv.2.2.2.1 _ rfl) (hv.2.2.2.2.1 _ rfl) (hv.2.2.2.2.2.1 _ rfl))
noncomputable def d_X1_leastWeight_B (F : lw_T) (x0 : Nat) (x1 : Int64) (x3 : Int32) (x4 : Int32) (m : dc_M) : Option Int32 :=
  (if ¬ (Int32.toInt (lg_cmp x1 (0 : Int64))) = 0 then (if 32 ≤ (Int32.toInt x4) then some ((x3 + (1 : Int32))) else ((d_X1_weightAtLeast x0 x1 m).bind (fun q1 => (if (Int32.toInt q1) ≤ (Int32.toInt x3) then ((d_X1_hardest x0 x1 m).bind (fun q2 => (d_X1_leastWeight_l43 F x0 x1 x4 q2 (x3 + (1 : Int32)) (0 : Int32) m))) else some ((x3 + (1 : Int32))))))) else some ((0 : Int32)))
set_option maxHeartbeats 8000000 in
theorem k_X1_leastWeight {u : Nat} {F : lw_T} {g : Int} (hC : dc_cok u 13 (lw_H F (g + 1))) {N : Nat} {Φ : (Option Int32) → Option Value → dc_M → Prop} (x0 : Nat) (x1 : Int64) (x3 : Int32) (x4 : Int32) (m : dc_M) (hg0 : g ≤ x4.toInt) (kR : ∀ (v : Int32), Φ (some (v)) (some (.int v)) m)  {lv : ab_L} (f0 : ab_lk lv 0 = some (.ref x0)) (f1 : ab_lk lv 1 = some (.long x1)) (f3 : ab_lk lv 3 = some (.int x3)) (f4 : ab_lk lv 4 = some (.int x4)) : dc_pv u N ab_M_X1_leastWeight 0 lv [] m (Φ (d_X1_leastWeight_B F x0 x1 x3 x4 m)) := by
  refine dc_pv.mono (dc_ok (C := C_X1_leastWeight F g) (S := S_X1_leastWeight) (CO_X1_leastWeight hC) 400 0 [(0, .ref x0), (1, .long x1), (3, .int x3), (4, .int x4)] lv [] m (dc_sub_cons f0 (dc_sub_cons f1 (dc_sub_cons f3 (dc_sub_cons f4 (dc_sub_nil))))) ?_) (Nat.le_succ N)
  unfold d_X1_leastWeight_B
  refine dg_s (pc' := 1) [.long x1] rfl (fun _ => rfl) rfl ?_
  refine dg_s (pc' := 2) [.long (0 : Int64), .long x1] rfl (fun _ => rfl) rfl ?_
  refine dg_s (pc' := 3) [.int (lg_cmp x1 (0 : Int64))] rfl (fun _ => rfl) rfl ?_
  refine dw_if (fun t => Φ t) (¬ (Int32.toInt (lg_cmp x1 (0 : Int64))) = 0) [] 8 6 rfl (fun _ => rfl) (fun c0 => ?_) (fun c0 => ?_)
  · refine dw_g rfl ?_
    refine dg_s (pc' := 10) [.int x4] rfl (fun _ => rfl) rfl ?_
    refine dg_s (pc' := 12) [.int (32 : Int32), .int x4] rfl (fun _ => rfl) rfl ?_
    refine dw_if (fun t => Φ t) (32 ≤ (Int32.toInt x4)) [] 24 15 rfl (fun _ => rfl) (fun c1 => ?_) (fun c1 => ?_)
    · refine dw_g rfl ?_
      refine dg_s (pc' := 25) [.int x3] rfl (fun _ => rfl) rfl ?_
      refine dg_s (pc' := 26) [.int (1 : Int32), .int x3] rfl (fun _ => rfl) rfl ?_
      refine dg_s (pc' := 27) [.int (x3 + (1 : Int32))] rfl (fun _ => rfl) rfl ?_
      exact dw_r (some (.inl (some (.int (x3 + (1 : Int32))), m))) rfl (fun _ => rfl) (kR _)
    · refine dw_g rfl ?_
      refine dg_s (pc' := 16) [.ref x0] rfl (fun _ => rfl) rfl ?_
      refine dg_s (pc' := 17) [.long x1, .ref x0] rfl (fun _ => rfl) rfl ?_
      refine dw_b (fun t => Φ t) (pc' := 20) (fun q1 => [.int q1]) (fun q1 => m) rfl (fun _ => rfl) (fun q1 => ?_)
      refine dw_g rfl ?_
      refine dg_s (pc' := 21) [.int x3, .int q1] rfl (fun _ => rfl) rfl ?_
      refine dw_if (fun t => Φ t) ((Int32.toInt q1) ≤ (Int32.toInt x3)) [] 28 24 rfl (fun _ => rfl) (fun c2 => ?_) (fun c2 => ?_)
      · refine dw_g rfl ?_
        refine dg_s (pc' := 29) [.ref x0] rfl (fun _ => rfl) rfl ?_
        refine dg_s (pc' := 30) [.long x1, .ref x0] rfl (fun _ => rfl) rfl ?_
        refine dw_b (fun t => Φ t) (pc' := 33) (fun q2 => [.int q2]) (fun q2 => m) rfl (fun _ => rfl) (fun q2 => ?_)
        refine dw_g rfl ?_
        refine dg_L (pc' := 35) [(5, .int q2), (0, .ref x0), (1, .long x1), (3, .int x3), (4, .int x4)] [] rfl (fun _ => rfl) rfl ?_
        refine dg_s (pc' := 36) [.int x3] rfl (fun _ => rfl) rfl ?_
        refine dg_s (pc' := 37) [.int (1 : Int32), .int x3] rfl (fun _ => rfl) rfl ?_
        refine dg_s (pc' := 38) [.int (x3 + (1 : Int32))] rfl (fun _ => rfl) rfl ?_
        refine dg_L (pc' := 40) [(6, .int (x3 + (1 : Int32))), (5, .int q2), (0, .ref x0), (1, .long x1), (3, .int x3), (4, .int x4)] [] rfl (fun _ => rfl) rfl ?_
        refine dg_s (pc' := 41) [.int (0 : Int32)] rfl (fun _ => rfl) rfl ?_
        refine dw_L (pc' := 43) [(7, .int (0 : Int32)), (6, .int (x3 + (1 : Int32))), (5, .int q2), (0, .ref x0), (1, .long x1), (3, .int x3), (4, .int x4)] [] rfl (fun _ => rfl) ?_
        exact dw_j rfl (fun lv1 hv => k_X1_leastWeight_l43 (hC := hC) (hg := lw_g hg0 (by omega)) (Φ := (fun t => Φ t)) x0 x1 x4 q2 m (fun _a  => kR _a) N  (x3 + (1 : Int32)) (0 : Int32) lv1 (hv.1 _ rfl) (hv.2.1 _ rfl) (hv.2.2.1 _ rfl) (hv.2.2.2.1 _ rfl) (hv.2.2.2.2.1 _ rfl) (hv.2.2.2.2.2.1 _ rfl))
      · refine dw_g rfl ?_
        refine dg_s (pc' := 25) [.int x3] rfl (fun _ => rfl) rfl ?_
        refine dg_s (pc' := 26) [.int (1 : Int32), .int x3] rfl (fun _ => rfl) rfl ?_
        refine dg_s (pc' := 27) [.int (x3 + (1 : Int32))] rfl (fun _ => rfl) rfl ?_
        exact dw_r (some (.inl (some (.int (x3 + (1 : Int32))), m))) rfl (fun _ => rfl) (kR _)
  · refine dw_g rfl ?_
    refine dg_s (pc' := 7) [.int (0 : Int32)] rfl (fun _ => rfl) rfl ?_
    exact dw_r (some (.inl (some (.int (0 : Int32)), m))) rfl (fun _ => rfl) (kR _)
noncomputable def lwF : Nat → lw_T
  | 0 => fun _ _ _ _ _ => none
  | n + 1 => d_X1_leastWeight_B (lwF n)
noncomputable def d_X1_leastWeight (x0 : Nat) (x1 : Int64) (x3 : Int32) (x4 : Int32) (m : dc_M) : Option Int32 := lwF ((33 - x4.toInt).toNat + 1) x0 x1 x3 x4 m
theorem lw_B {F G : lw_T} {x0 : Nat} {x1 : Int64} {x3 x4 : Int32} {m : dc_M} (h : ¬ 32 ≤ x4.toInt → ∀ a b c, F a b c (x4 + 1) m = G a b c (x4 + 1) m) : d_X1_leastWeight_B F x0 x1 x3 x4 m = d_X1_leastWeight_B G x0 x1 x3 x4 m := by
  by_cases h4 : 32 ≤ x4.toInt
  · unfold d_X1_leastWeight_B
    simp only [h4, if_true]
  · have e : ∀ x5 x6 x7, d_X1_leastWeight_l43 F x0 x1 x4 x5 x6 x7 m = d_X1_leastWeight_l43 G x0 x1 x4 x5 x6 x7 m := fun x5 x6 x7 => by
      unfold d_X1_leastWeight_l43
      rw [show d_X1_leastWeight_l43s F x0 x1 x4 x5 m = d_X1_leastWeight_l43s G x0 x1 x4 x5 m from funext (fun s => by
        unfold d_X1_leastWeight_l43s d_X1_leastWeight_l43b
        simp only [h h4])]
    unfold d_X1_leastWeight_B
    simp only [e]
theorem lw_eq (x0 : Nat) (x1 : Int64) (x3 : Int32) (x4 : Int32) (m : dc_M) : d_X1_leastWeight x0 x1 x3 x4 m = d_X1_leastWeight_B d_X1_leastWeight x0 x1 x3 x4 m := by
  show d_X1_leastWeight_B (lwF (33 - x4.toInt).toNat) x0 x1 x3 x4 m = _
  refine lw_B (fun h4 a b c => ?_)
  unfold d_X1_leastWeight
  have b := Int32.le_toInt x4
  have e : (x4 + 1).toInt = x4.toInt + 1 := by
    rw [Int32.toInt_add]
    rw [show (1 : Int32).toInt = 1 from rfl]
    exact sx_bm (by omega) (by omega)
  rw [e, show (33 - (x4.toInt + 1)).toNat + 1 = (33 - x4.toInt).toNat by omega]
theorem lw_step {u : Nat} {g : Int} (hC : dc_cok u 13 (lw_H d_X1_leastWeight (g + 1))) : dc_cok u 13 (lw_H d_X1_leastWeight g) := fun M' hG N As m k P hz hP => by
  obtain rfl : ab_M_X1_leastWeight = M' := Option.some.inj hG
  unfold lw_H at hP
  split at hP
  · rename_i x0 x1 x3 x4
    by_cases hg : g ≤ x4.toInt
    · rw [if_pos hg, lw_eq] at hP
      exact dc_pv.imp (k_X1_leastWeight hC (Φ := fun (t : Option Int32) r m' => P (t.bind (fun q => k (some (.int q)) m)) → P (k r m')) x0 x1 x3 x4 m hg (fun _ h => h) rfl rfl rfl rfl) (fun r m' h => h hP)
    · rw [if_neg hg] at hP
      exact absurd hP hz
  · exact absurd hP hz
theorem lw_base {u : Nat} : dc_cok u 13 (lw_H d_X1_leastWeight 2147483648) := fun M' hG N As m k P hz hP => by
  unfold lw_H at hP
  split at hP
  · rename_i x0 x1 x3 x4
    have b := Int32.toInt_lt x4
    rw [if_neg (by omega)] at hP
    exact absurd hP hz
  · exact absurd hP hz
theorem lw_all {u : Nat} : ∀ n : Nat, dc_cok u 13 (lw_H d_X1_leastWeight (2147483648 - n))
  | 0 => lw_base
  | n + 1 => lw_step (by
      rw [show (2147483648 - ((n + 1 : Nat) : Int) + 1) = 2147483648 - (n : Int) by omega]
      exact lw_all n)
noncomputable def H_X1_leastWeight : dc_H := fun As m k => match As with
  | [.ref x0, .long x1, .int x3, .int x4] => (d_X1_leastWeight x0 x1 x3 x4 m).bind (fun q => k (some (.int q)) m)
  | _ => dc_kz
theorem H_X1_leastWeight_ok {u : Nat} : dc_cok u 13 H_X1_leastWeight := fun M' hG N As m k P hz hP => by
  refine lw_all 4294967296 M' hG N As m k P hz ?_
  unfold H_X1_leastWeight at hP
  split at hP
  · rename_i x0 x1 x3 x4
    show P (@ite _ _ _ _ _)
    have b := Int32.le_toInt x4
    rw [if_pos (by omega)]
    exact hP
  · exact absurd hP hz
def C_X8_cube : List (Nat × dc_H) := []
theorem CO_X8_cube {u : Nat} : dc_CO u C_X8_cube := dc_CO_nil
def S_X8_cube : List (Nat × List Nat) := []
def d_X8_cube (x0 : Nat) (x1 : Int32) (x2 : Int32) (m : dc_M) : Int32 :=
  (if (Int32.toInt x2) < 0 then (-4 : Int32) else (if (Int32.toInt (m.1 (x0 + 3) (Int32.toNatClampNeg x1))) ≤ (Int32.toInt x2) then (-4 : Int32) else (m.1 (x0 + 5) (Int32.toNatClampNeg ((x1 * (32 : Int32)) + x2)))))
set_option maxHeartbeats 8000000 in
theorem k_X8_cube {u : Nat} {N : Nat} {Φ : Int32 → Option Value → dc_M → Prop} (x0 : Nat) (x1 : Int32) (x2 : Int32) (m : dc_M) (kR : ∀ (v : Int32), Φ (v) (some (.int v)) m)  {lv : ab_L} (f0 : ab_lk lv 0 = some (.ref x0)) (f1 : ab_lk lv 1 = some (.int x1)) (f2 : ab_lk lv 2 = some (.int x2)) : dc_pv u N ab_M_X8_cube 0 lv [] m (Φ (d_X8_cube x0 x1 x2 m)) := by
  refine dc_pv.mono (dc_ok (C := C_X8_cube) (S := S_X8_cube) CO_X8_cube 400 0 [(0, .ref x0), (1, .int x1), (2, .int x2)] lv [] m (dc_sub_cons f0 (dc_sub_cons f1 (dc_sub_cons f2 (dc_sub_nil)))) ?_) (Nat.le_succ N)
  unfold d_X8_cube
  refine dg_s (pc' := 1) [.int x2] rfl (fun _ => rfl) rfl ?_
  refine dw_if (fun t => Φ t) ((Int32.toInt x2) < 0) [] 28 4 rfl (fun _ => rfl) (fun c0 => ?_) (fun c0 => ?_)
  · refine dw_g rfl ?_
    refine dg_s (pc' := 30) [.int (-4 : Int32)] rfl (fun _ => rfl) rfl ?_
    exact dw_r (some (.inl (some (.int (-4 : Int32)), m))) rfl (fun _ => rfl) (kR _)
  · refine dw_g rfl ?_
    refine dg_s (pc' := 5) [.int x2] rfl (fun _ => rfl) rfl ?_
    refine dg_s (pc' := 6) [.ref x0, .int x2] rfl (fun _ => rfl) rfl ?_
    refine dg_s (pc' := 9) [.ref (x0 + 3), .int x2] rfl (fun _ => rfl) rfl ?_
    refine dg_s (pc' := 10) [.int x1, .ref (x0 + 3), .int x2] rfl (fun _ => rfl) rfl ?_
    refine dg_s (pc' := 11) [.int (m.1 (x0 + 3) (Int32.toNatClampNeg x1)), .int x2] rfl (fun _ => rfl) rfl ?_
    refine dw_if (fun t => Φ t) ((Int32.toInt (m.1 (x0 + 3) (Int32.toNatClampNeg x1))) ≤ (Int32.toInt x2)) [] 28 14 rfl (fun _ => rfl) (fun c1 => ?_) (fun c1 => ?_)
    · refine dw_g rfl ?_
      refine dg_s (pc' := 30) [.int (-4 : Int32)] rfl (fun _ => rfl) rfl ?_
      exact dw_r (some (.inl (some (.int (-4 : Int32)), m))) rfl (fun _ => rfl) (kR _)
    · refine dw_g rfl ?_
      refine dg_s (pc' := 15) [.ref x0] rfl (fun _ => rfl) rfl ?_
      refine dg_s (pc' := 18) [.ref (x0 + 5)] rfl (fun _ => rfl) rfl ?_
      refine dg_s (pc' := 19) [.int x1, .ref (x0 + 5)] rfl (fun _ => rfl) rfl ?_
      refine dg_s (pc' := 21) [.int (32 : Int32), .int x1, .ref (x0 + 5)] rfl (fun _ => rfl) rfl ?_
      refine dg_s (pc' := 22) [.int (x1 * (32 : Int32)), .ref (x0 + 5)] rfl (fun _ => rfl) rfl ?_
      refine dg_s (pc' := 23) [.int x2, .int (x1 * (32 : Int32)), .ref (x0 + 5)] rfl (fun _ => rfl) rfl ?_
      refine dg_s (pc' := 24) [.int ((x1 * (32 : Int32)) + x2), .ref (x0 + 5)] rfl (fun _ => rfl) rfl ?_
      refine dg_s (pc' := 25) [.int (m.1 (x0 + 5) (Int32.toNatClampNeg ((x1 * (32 : Int32)) + x2)))] rfl (fun _ => rfl) rfl ?_
      refine dg_s (pc' := 30) [.int (m.1 (x0 + 5) (Int32.toNatClampNeg ((x1 * (32 : Int32)) + x2)))] rfl (fun _ => rfl) rfl ?_
      exact dw_r (some (.inl (some (.int (m.1 (x0 + 5) (Int32.toNatClampNeg ((x1 * (32 : Int32)) + x2)))), m))) rfl (fun _ => rfl) (kR _)
def H_X8_cube : dc_H := fun As m k => match As with
  | [.ref x0, .int x1, .int x2] => k (some (.int (d_X8_cube x0 x1 x2 m))) m
  | _ => dc_kz
theorem H_X8_cube_ok {u : Nat} : dc_cok u 96 H_X8_cube := fun M' hG N As m k P hz hP => by
  obtain rfl : ab_M_X8_cube = M' := Option.some.inj hG
  unfold H_X8_cube at hP
  split at hP
  · rename_i x0 x1 x2
    exact dc_pv.imp (k_X8_cube (Φ := fun (t : Int32) r m' => P (k (some (.int t)) m) → P (k r m')) x0 x1 x2 m (fun _  h => h) rfl rfl rfl) (fun r m' h => h hP)
  · exact absurd hP hz
noncomputable def C_X1_firstThatCanDo : List (Nat × dc_H) := [(13, H_X1_leastWeight)]
theorem CO_X1_firstThatCanDo {u : Nat} : dc_CO u C_X1_firstThatCanDo := dc_CO_cons H_X1_leastWeight_ok (dc_CO_nil)
def S_X1_firstThatCanDo : List (Nat × List Nat) := [(3, [0, 1, 3, 4, 5])]
noncomputable def d_X1_firstThatCanDo_l3b (x0 : Nat) (x1 : Int64) (x3 : Int32) (x4 : Int32) (x5 : Int32) (m : dc_M) : Option (Int32 ⊕ Int32) :=
  (if (Int32.toInt (m.1 x0 1)) ≤ (Int32.toInt x5) then some (Sum.inr ((-4 : Int32))) else (if (Int32.toInt (lg_cmp (((((m.2.1 (x0 + 4) (Int32.toNatClampNeg x5))).toUInt64 >>> ((Int32.toInt64 x3).toUInt64 &&& Int64.toUInt64 63)).toInt64) &&& (1 : Int64)) (0 : Int64))) = 0 then some (Sum.inl (x5 + (1 : Int32))) else (if (Int32.toInt (m.1 (x0 + 3) (Int32.toNatClampNeg x5))) ≤ (Int32.toInt x4) then ((d_X1_leastWeight x0 (x1 &&& ((m.2.1 (x0 + 4) (Int32.toNatClampNeg x5)) ^^^ (-1 : Int64))) (x4 - (m.1 (x0 + 3) (Int32.toNatClampNeg x5))) (0 : Int32) m).bind (fun q1 => (if (Int32.toInt (x4 - (m.1 (x0 + 3) (Int32.toNatClampNeg x5)))) < (Int32.toInt q1) then some (Sum.inl (x5 + (1 : Int32))) else some (Sum.inr (x5))))) else some (Sum.inl (x5 + (1 : Int32))))))
noncomputable def d_X1_firstThatCanDo_l3s (x0 : Nat) (x1 : Int64) (x3 : Int32) (x4 : Int32) (m : dc_M) : Int32 → Option (Int32 ⊕ Int32) := fun s => d_X1_firstThatCanDo_l3b x0 x1 x3 x4 s m
noncomputable def d_X1_firstThatCanDo_l3 (x0 : Nat) (x1 : Int64) (x3 : Int32) (x4 : Int32) (x5 : Int32) (m : dc_M) : Option Int32 := dc_lp (d_X1_firstThatCanDo_l3s x0 x1 x3 x4 m) x5
set_option maxHeartbeats 8000000 in
theorem k_X1_firstThatCanDo_l3 {u : Nat} {Φ : (Option Int32) → Option Value → dc_M → Prop} (x0 : Nat) (x1 : Int64) (x3 : Int32) (x4 : Int32) (m : dc_M) (kR : ∀ (v : Int32), Φ (some (v)) (some (.int v)) m) : ∀ (N : Nat), ∀ (x5 : Int32) (lv : ab_L), ab_lk lv 0 = some (.ref x0) → ab_lk lv 1 = some (.long x1) → ab_lk lv 3 = some (.int x3) → ab_lk lv 4 = some (.int x4) → ab_lk lv 5 = some (.int x5) → dc_pv u N ab_M_X1_firstThatCanDo 3 lv [] m (Φ (d_X1_firstThatCanDo_l3 x0 x1 x3 x4 x5 m)) := by
  intro N
  induction N with
  | zero => intros; exact dc_pv_zero
  | succ N ih =>
    intro x5 lv f0 f1 f3 f4 f5
    refine dc_ok (C := C_X1_firstThatCanDo) (S := S_X1_firstThatCanDo) CO_X1_firstThatCanDo 400 3 [(0, .ref x0), (1, .long x1), (3, .int x3), (4, .int x4), (5, .int x5)] lv [] m (dc_sub_cons f0 (dc_sub_cons f1 (dc_sub_cons f3 (dc_sub_cons f4 (dc_sub_cons f5 (dc_sub_nil)))))) ?_
    unfold d_X1_firstThatCanDo_l3
    rw [dc_lp_eq]
    show (fun t x => dc_lf u N ab_M_X1_firstThatCanDo (Φ (Option.bind t (dc_bk (d_X1_firstThatCanDo_l3s x0 x1 x3 x4 m)))) x) (d_X1_firstThatCanDo_l3b x0 x1 x3 x4 x5 m) _
    dsimp only
    unfold d_X1_firstThatCanDo_l3b
    refine dg_s (pc' := 5) [.int x5] rfl (fun _ => rfl) rfl ?_
    refine dg_s (pc' := 6) [.ref x0, .int x5] rfl (fun _ => rfl) rfl ?_
    refine dg_s (pc' := 9) [.int (m.1 x0 1), .int x5] rfl (fun _ => rfl) rfl ?_
    refine dw_if (fun t => Φ (Option.bind t (dc_bk (d_X1_firstThatCanDo_l3s x0 x1 x3 x4 m)))) ((Int32.toInt (m.1 x0 1)) ≤ (Int32.toInt x5)) [] 89 12 rfl (fun _ => rfl) (fun c0 => ?_) (fun c0 => ?_)
    · refine dw_g rfl ?_
      refine dg_s (pc' := 91) [.int (-4 : Int32)] rfl (fun _ => rfl) rfl ?_
      exact dw_r (some (.inl (some (.int (-4 : Int32)), m))) rfl (fun _ => rfl) (kR _)
    · refine dw_g rfl ?_
      refine dg_s (pc' := 13) [.ref x0] rfl (fun _ => rfl) rfl ?_
      refine dg_s (pc' := 16) [.ref (x0 + 4)] rfl (fun _ => rfl) rfl ?_
      refine dg_s (pc' := 18) [.int x5, .ref (x0 + 4)] rfl (fun _ => rfl) rfl ?_
      refine dg_s (pc' := 19) [.long (m.2.1 (x0 + 4) (Int32.toNatClampNeg x5))] rfl (fun _ => rfl) rfl ?_
      refine dg_s (pc' := 20) [.int x3, .long (m.2.1 (x0 + 4) (Int32.toNatClampNeg x5))] rfl (fun _ => rfl) rfl ?_
      refine dg_s (pc' := 21) [.long ((((m.2.1 (x0 + 4) (Int32.toNatClampNeg x5))).toUInt64 >>> ((Int32.toInt64 x3).toUInt64 &&& Int64.toUInt64 63)).toInt64)] rfl (fun _ => rfl) rfl ?_
      refine dg_s (pc' := 22) [.long (1 : Int64), .long ((((m.2.1 (x0 + 4) (Int32.toNatClampNeg x5))).toUInt64 >>> ((Int32.toInt64 x3).toUInt64 &&& Int64.toUInt64 63)).toInt64)] rfl (fun _ => rfl) rfl ?_
      refine dg_s (pc' := 23) [.long (((((m.2.1 (x0 + 4) (Int32.toNatClampNeg x5))).toUInt64 >>> ((Int32.toInt64 x3).toUInt64 &&& Int64.toUInt64 63)).toInt64) &&& (1 : Int64))] rfl (fun _ => rfl) rfl ?_
      refine dg_s (pc' := 24) [.long (0 : Int64), .long (((((m.2.1 (x0 + 4) (Int32.toNatClampNeg x5))).toUInt64 >>> ((Int32.toInt64 x3).toUInt64 &&& Int64.toUInt64 63)).toInt64) &&& (1 : Int64))] rfl (fun _ => rfl) rfl ?_
      refine dg_s (pc' := 25) [.int (lg_cmp (((((m.2.1 (x0 + 4) (Int32.toNatClampNeg x5))).toUInt64 >>> ((Int32.toInt64 x3).toUInt64 &&& Int64.toUInt64 63)).toInt64) &&& (1 : Int64)) (0 : Int64))] rfl (fun _ => rfl) rfl ?_
      refine dw_if (fun t => Φ (Option.bind t (dc_bk (d_X1_firstThatCanDo_l3s x0 x1 x3 x4 m)))) ((Int32.toInt (lg_cmp (((((m.2.1 (x0 + 4) (Int32.toNatClampNeg x5))).toUInt64 >>> ((Int32.toInt64 x3).toUInt64 &&& Int64.toUInt64 63)).toInt64) &&& (1 : Int64)) (0 : Int64))) = 0) [] 83 28 rfl (fun _ => rfl) (fun c1 => ?_) (fun c1 => ?_)
      · refine dw_g rfl ?_
        refine dg_L (pc' := 86) [(5, .int (x5 + (1 : Int32))), (0, .ref x0), (1, .long x1), (3, .int x3), (4, .int x4)] [] rfl (fun _ => rfl) rfl ?_
        refine dw_s (pc' := 3) [] rfl (fun _ => rfl) ?_
        exact dw_j rfl (fun lv1 hv => ih (x5 + (1 : Int32)) lv1 (hv.1 _ rfl) (hv.2.1 _ rfl) (hv.2.2.1 _ rfl) (hv.2.2.2.1 _ rfl) (hv.2.2.2.2.1 _ rfl))
      · refine dw_g rfl ?_
        refine dg_s (pc' := 29) [.ref x0] rfl (fun _ => rfl) rfl ?_
        refine dg_s (pc' := 32) [.ref (x0 + 3)] rfl (fun _ => rfl) rfl ?_
        refine dg_s (pc' := 34) [.int x5, .ref (x0 + 3)] rfl (fun _ => rfl) rfl ?_
        refine dg_s (pc' := 35) [.int (m.1 (x0 + 3) (Int32.toNatClampNeg x5))] rfl (fun _ => rfl) rfl ?_
        refine dg_s (pc' := 37) [.int x4, .int (m.1 (x0 + 3) (Int32.toNatClampNeg x5))] rfl (fun _ => rfl) rfl ?_
        refine dw_if (fun t => Φ (Option.bind t (dc_bk (d_X1_firstThatCanDo_l3s x0 x1 x3 x4 m)))) ((Int32.toInt (m.1 (x0 + 3) (Int32.toNatClampNeg x5))) ≤ (Int32.toInt x4)) [] 43 40 rfl (fun _ => rfl) (fun c2 => ?_) (fun c2 => ?_)
        · refine dw_g rfl ?_
          refine dg_s (pc' := 45) [.int x4] rfl (fun _ => rfl) rfl ?_
          refine dg_s (pc' := 46) [.ref x0, .int x4] rfl (fun _ => rfl) rfl ?_
          refine dg_s (pc' := 49) [.ref (x0 + 3), .int x4] rfl (fun _ => rfl) rfl ?_
          refine dg_s (pc' := 51) [.int x5, .ref (x0 + 3), .int x4] rfl (fun _ => rfl) rfl ?_
          refine dg_s (pc' := 52) [.int (m.1 (x0 + 3) (Int32.toNatClampNeg x5)), .int x4] rfl (fun _ => rfl) rfl ?_
          refine dg_s (pc' := 53) [.int (x4 - (m.1 (x0 + 3) (Int32.toNatClampNeg x5)))] rfl (fun _ => rfl) rfl ?_
          refine dg_L (pc' := 55) [(6, .int (x4 - (m.1 (x0 + 3) (Int32.toNatClampNeg x5)))), (0, .ref x0), (1, .long x1), (3, .int x3), (4, .int x4), (5, .int x5)] [] rfl (fun _ => rfl) rfl ?_
          refine dg_s (pc' := 56) [.ref x0] rfl (fun _ => rfl) rfl ?_
          refine dg_s (pc' := 57) [.long x1, .ref x0] rfl (fun _ => rfl) rfl ?_
          refine dg_s (pc' := 58) [.ref x0, .long x1, .ref x0] rfl (fun _ => rfl) rfl ?_
          refine dg_s (pc' := 61) [.ref (x0 + 4), .long x1, .ref x0] rfl (fun _ => rfl) rfl ?_
          refine dg_s (pc' := 63) [.int x5, .ref (x0 + 4), .long x1, .ref x0] rfl (fun _ => rfl) rfl ?_
          refine dg_s (pc' := 64) [.long (m.2.1 (x0 + 4) (Int32.toNatClampNeg x5)), .long x1, .ref x0] rfl (fun _ => rfl) rfl ?_
          refine dg_s (pc' := 67) [.long (-1 : Int64), .long (m.2.1 (x0 + 4) (Int32.toNatClampNeg x5)), .long x1, .ref x0] rfl (fun _ => rfl) rfl ?_
          refine dg_s (pc' := 68) [.long ((m.2.1 (x0 + 4) (Int32.toNatClampNeg x5)) ^^^ (-1 : Int64)), .long x1, .ref x0] rfl (fun _ => rfl) rfl ?_
          refine dg_s (pc' := 69) [.long (x1 &&& ((m.2.1 (x0 + 4) (Int32.toNatClampNeg x5)) ^^^ (-1 : Int64))), .ref x0] rfl (fun _ => rfl) rfl ?_
          refine dg_s (pc' := 71) [.int (x4 - (m.1 (x0 + 3) (Int32.toNatClampNeg x5))), .long (x1 &&& ((m.2.1 (x0 + 4) (Int32.toNatClampNeg x5)) ^^^ (-1 : Int64))), .ref x0] rfl (fun _ => rfl) rfl ?_
          refine dg_s (pc' := 72) [.int (0 : Int32), .int (x4 - (m.1 (x0 + 3) (Int32.toNatClampNeg x5))), .long (x1 &&& ((m.2.1 (x0 + 4) (Int32.toNatClampNeg x5)) ^^^ (-1 : Int64))), .ref x0] rfl (fun _ => rfl) rfl ?_
          refine dw_b (fun t => Φ (Option.bind t (dc_bk (d_X1_firstThatCanDo_l3s x0 x1 x3 x4 m)))) (pc' := 75) (fun q1 => [.int q1]) (fun q1 => m) rfl (fun _ => rfl) (fun q1 => ?_)
          refine dw_g rfl ?_
          refine dg_s (pc' := 77) [.int (x4 - (m.1 (x0 + 3) (Int32.toNatClampNeg x5))), .int q1] rfl (fun _ => rfl) rfl ?_
          refine dw_if (fun t => Φ (Option.bind t (dc_bk (d_X1_firstThatCanDo_l3s x0 x1 x3 x4 m)))) ((Int32.toInt (x4 - (m.1 (x0 + 3) (Int32.toNatClampNeg x5)))) < (Int32.toInt q1)) [] 83 80 rfl (fun _ => rfl) (fun c3 => ?_) (fun c3 => ?_)
          · refine dw_g rfl ?_
            refine dg_L (pc' := 86) [(5, .int (x5 + (1 : Int32))), (6, .int (x4 - (m.1 (x0 + 3) (Int32.toNatClampNeg x5)))), (0, .ref x0), (1, .long x1), (3, .int x3), (4, .int x4)] [] rfl (fun _ => rfl) rfl ?_
            refine dw_s (pc' := 3) [] rfl (fun _ => rfl) ?_
            exact dw_j rfl (fun lv1 hv => ih (x5 + (1 : Int32)) lv1 (hv.1 _ rfl) (hv.2.1 _ rfl) (hv.2.2.1 _ rfl) (hv.2.2.2.1 _ rfl) (hv.2.2.2.2.1 _ rfl))
          · refine dw_g rfl ?_
            refine dg_s (pc' := 82) [.int x5] rfl (fun _ => rfl) rfl ?_
            exact dw_r (some (.inl (some (.int x5), m))) rfl (fun _ => rfl) (kR _)
        · refine dw_g rfl ?_
          refine dg_s (pc' := 83) [] rfl (fun _ => rfl) rfl ?_
          refine dg_L (pc' := 86) [(5, .int (x5 + (1 : Int32))), (0, .ref x0), (1, .long x1), (3, .int x3), (4, .int x4)] [] rfl (fun _ => rfl) rfl ?_
          refine dw_s (pc' := 3) [] rfl (fun _ => rfl) ?_
          exact dw_j rfl (fun lv1 hv => ih (x5 + (1 : Int32)) lv1 (hv.1 _ rfl) (hv.2.1 _ rfl) (hv.2.2.1 _ rfl) (hv.2.2.2.1 _ rfl) (hv.2.2.2.2.1 _ rfl))
noncomputable def d_X1_firstThatCanDo (x0 : Nat) (x1 : Int64) (x3 : Int32) (x4 : Int32) (m : dc_M) : Option Int32 :=
  (d_X1_firstThatCanDo_l3 x0 x1 x3 x4 (0 : Int32) m)
set_option maxHeartbeats 8000000 in
theorem k_X1_firstThatCanDo {u : Nat} {N : Nat} {Φ : (Option Int32) → Option Value → dc_M → Prop} (x0 : Nat) (x1 : Int64) (x3 : Int32) (x4 : Int32) (m : dc_M) (kR : ∀ (v : Int32), Φ (some (v)) (some (.int v)) m)  {lv : ab_L} (f0 : ab_lk lv 0 = some (.ref x0)) (f1 : ab_lk lv 1 = some (.long x1)) (f3 : ab_lk lv 3 = some (.int x3)) (f4 : ab_lk lv 4 = some (.int x4)) : dc_pv u N ab_M_X1_firstThatCanDo 0 lv [] m (Φ (d_X1_firstThatCanDo x0 x1 x3 x4 m)) := by
  refine dc_pv.mono (dc_ok (C := C_X1_firstThatCanDo) (S := S_X1_firstThatCanDo) CO_X1_firstThatCanDo 400 0 [(0, .ref x0), (1, .long x1), (3, .int x3), (4, .int x4)] lv [] m (dc_sub_cons f0 (dc_sub_cons f1 (dc_sub_cons f3 (dc_sub_cons f4 (dc_sub_nil))))) ?_) (Nat.le_succ N)
  unfold d_X1_firstThatCanDo
  refine dg_s (pc' := 1) [.int (0 : Int32)] rfl (fun _ => rfl) rfl ?_
  refine dw_L (pc' := 3) [(5, .int (0 : Int32)), (0, .ref x0), (1, .long x1), (3, .int x3), (4, .int x4)] [] rfl (fun _ => rfl) ?_
  exact dw_j rfl (fun lv1 hv => k_X1_firstThatCanDo_l3 (Φ := (fun t => Φ t)) x0 x1 x3 x4 m (fun _a  => kR _a) N  (0 : Int32) lv1 (hv.1 _ rfl) (hv.2.1 _ rfl) (hv.2.2.1 _ rfl) (hv.2.2.2.1 _ rfl) (hv.2.2.2.2.1 _ rfl))
noncomputable def H_X1_firstThatCanDo : dc_H := fun As m k => match As with
  | [.ref x0, .long x1, .int x3, .int x4] => (d_X1_firstThatCanDo x0 x1 x3 x4 m).bind (fun q => k (some (.int q)) m)
  | _ => dc_kz
theorem H_X1_firstThatCanDo_ok {u : Nat} : dc_cok u 12 H_X1_firstThatCanDo := fun M' hG N As m k P hz hP => by
  obtain rfl : ab_M_X1_firstThatCanDo = M' := Option.some.inj hG
  unfold H_X1_firstThatCanDo at hP
  split at hP
  · rename_i x0 x1 x3 x4
    exact dc_pv.imp (k_X1_firstThatCanDo (Φ := fun (t : Option Int32) r m' => P (t.bind (fun q => k (some (.int q)) m)) → P (k r m')) x0 x1 x3 x4 m (fun _  h => h) rfl rfl rfl rfl) (fun r m' h => h hP)
  · exact absurd hP hz
noncomputable def C_X1_choose : List (Nat × dc_H) := [(12, H_X1_firstThatCanDo), (13, H_X1_leastWeight)]
theorem CO_X1_choose {u : Nat} : dc_CO u C_X1_choose := dc_CO_cons H_X1_firstThatCanDo_ok (dc_CO_cons H_X1_leastWeight_ok (dc_CO_nil))
def S_X1_choose : List (Nat × List Nat) := [(19, [0, 3, 5, 6, 7])]
noncomputable def d_X1_choose_l19b (x0 : Nat) (x3 : Int64) (x5 : Int32) (x6 : Int32) (x7 : Int32) (m : dc_M) : Option ((Int64 × Int32 × Int32 × Int32 × dc_M) ⊕ (Int32 × dc_M)) :=
  (if 64 ≤ (Int32.toInt x7) then some (Sum.inr ((x6, m))) else (if 32 ≤ (Int32.toInt x6) then some (Sum.inr ((x6, m))) else (if ¬ (Int32.toInt (lg_cmp ((((x3).toUInt64 >>> ((Int32.toInt64 x7).toUInt64 &&& Int64.toUInt64 63)).toInt64) &&& (1 : Int64)) (0 : Int64))) = 0 then ((d_X1_firstThatCanDo x0 x3 x7 x5 m).bind (fun q1 => (if 0 ≤ (Int32.toInt q1) then some (Sum.inl ((x3 &&& (((dc_wi m (x0 + 1) (Int32.toNatClampNeg x6) (m.1 (x0 + 2) (Int32.toNatClampNeg q1))).2.1 (x0 + 4) (Int32.toNatClampNeg q1)) ^^^ (-1 : Int64))), (x5 - ((dc_wi m (x0 + 1) (Int32.toNatClampNeg x6) (m.1 (x0 + 2) (Int32.toNatClampNeg q1))).1 (x0 + 3) (Int32.toNatClampNeg q1))), (x6 + (1 : Int32)), (x7 + (1 : Int32)), (dc_wi m (x0 + 1) (Int32.toNatClampNeg x6) (m.1 (x0 + 2) (Int32.toNatClampNeg q1))))) else some (Sum.inr ((x6, m)))))) else some (Sum.inl (x3, x5, x6, (x7 + (1 : Int32)), m)))))
noncomputable def d_X1_choose_l19s (x0 : Nat) : (Int64 × Int32 × Int32 × Int32 × dc_M) → Option ((Int64 × Int32 × Int32 × Int32 × dc_M) ⊕ (Int32 × dc_M)) := fun s => d_X1_choose_l19b x0 s.1 s.2.1 s.2.2.1 s.2.2.2.1 s.2.2.2.2
noncomputable def d_X1_choose_l19 (x0 : Nat) (x3 : Int64) (x5 : Int32) (x6 : Int32) (x7 : Int32) (m : dc_M) : Option (Int32 × dc_M) := dc_lp (d_X1_choose_l19s x0) (x3, x5, x6, x7, m)
set_option maxHeartbeats 8000000 in
theorem k_X1_choose_l19 {u : Nat} {Φ : (Option (Int32 × dc_M)) → Option Value → dc_M → Prop} (x0 : Nat) (kR : ∀ (v : Int32) (m : dc_M), Φ (some ((v, m))) (some (.int v)) m) : ∀ (N : Nat), ∀ (x3 : Int64) (x5 : Int32) (x6 : Int32) (x7 : Int32) (m : dc_M) (lv : ab_L), ab_lk lv 0 = some (.ref x0) → ab_lk lv 3 = some (.long x3) → ab_lk lv 5 = some (.int x5) → ab_lk lv 6 = some (.int x6) → ab_lk lv 7 = some (.int x7) → dc_pv u N ab_M_X1_choose 19 lv [] m (Φ (d_X1_choose_l19 x0 x3 x5 x6 x7 m)) := by
  intro N
  induction N with
  | zero => intros; exact dc_pv_zero
  | succ N ih =>
    intro x3 x5 x6 x7 m lv f0 f3 f5 f6 f7
    refine dc_ok (C := C_X1_choose) (S := S_X1_choose) CO_X1_choose 400 19 [(0, .ref x0), (3, .long x3), (5, .int x5), (6, .int x6), (7, .int x7)] lv [] m (dc_sub_cons f0 (dc_sub_cons f3 (dc_sub_cons f5 (dc_sub_cons f6 (dc_sub_cons f7 (dc_sub_nil)))))) ?_
    unfold d_X1_choose_l19
    rw [dc_lp_eq]
    show (fun t x => dc_lf u N ab_M_X1_choose (Φ (Option.bind t (dc_bk (d_X1_choose_l19s x0)))) x) (d_X1_choose_l19b x0 x3 x5 x6 x7 m) _
    dsimp only
    unfold d_X1_choose_l19b
    refine dg_s (pc' := 21) [.int x7] rfl (fun _ => rfl) rfl ?_
    refine dg_s (pc' := 23) [.int (64 : Int32), .int x7] rfl (fun _ => rfl) rfl ?_
    refine dw_if (fun t => Φ (Option.bind t (dc_bk (d_X1_choose_l19s x0)))) (64 ≤ (Int32.toInt x7)) [] 115 26 rfl (fun _ => rfl) (fun c0 => ?_) (fun c0 => ?_)
    · refine dw_g rfl ?_
      refine dg_s (pc' := 117) [.int x6] rfl (fun _ => rfl) rfl ?_
      exact dw_r (some (.inl (some (.int x6), m))) rfl (fun _ => rfl) (kR _ _)
    · refine dw_g rfl ?_
      refine dg_s (pc' := 28) [.int x6] rfl (fun _ => rfl) rfl ?_
      refine dg_s (pc' := 30) [.int (32 : Int32), .int x6] rfl (fun _ => rfl) rfl ?_
      refine dw_if (fun t => Φ (Option.bind t (dc_bk (d_X1_choose_l19s x0)))) (32 ≤ (Int32.toInt x6)) [] 115 33 rfl (fun _ => rfl) (fun c1 => ?_) (fun c1 => ?_)
      · refine dw_g rfl ?_
        refine dg_s (pc' := 117) [.int x6] rfl (fun _ => rfl) rfl ?_
        exact dw_r (some (.inl (some (.int x6), m))) rfl (fun _ => rfl) (kR _ _)
      · refine dw_g rfl ?_
        refine dg_s (pc' := 34) [.long x3] rfl (fun _ => rfl) rfl ?_
        refine dg_s (pc' := 36) [.int x7, .long x3] rfl (fun _ => rfl) rfl ?_
        refine dg_s (pc' := 37) [.long (((x3).toUInt64 >>> ((Int32.toInt64 x7).toUInt64 &&& Int64.toUInt64 63)).toInt64)] rfl (fun _ => rfl) rfl ?_
        refine dg_s (pc' := 38) [.long (1 : Int64), .long (((x3).toUInt64 >>> ((Int32.toInt64 x7).toUInt64 &&& Int64.toUInt64 63)).toInt64)] rfl (fun _ => rfl) rfl ?_
        refine dg_s (pc' := 39) [.long ((((x3).toUInt64 >>> ((Int32.toInt64 x7).toUInt64 &&& Int64.toUInt64 63)).toInt64) &&& (1 : Int64))] rfl (fun _ => rfl) rfl ?_
        refine dg_s (pc' := 40) [.long (0 : Int64), .long ((((x3).toUInt64 >>> ((Int32.toInt64 x7).toUInt64 &&& Int64.toUInt64 63)).toInt64) &&& (1 : Int64))] rfl (fun _ => rfl) rfl ?_
        refine dg_s (pc' := 41) [.int (lg_cmp ((((x3).toUInt64 >>> ((Int32.toInt64 x7).toUInt64 &&& Int64.toUInt64 63)).toInt64) &&& (1 : Int64)) (0 : Int64))] rfl (fun _ => rfl) rfl ?_
        refine dw_if (fun t => Φ (Option.bind t (dc_bk (d_X1_choose_l19s x0)))) (¬ (Int32.toInt (lg_cmp ((((x3).toUInt64 >>> ((Int32.toInt64 x7).toUInt64 &&& Int64.toUInt64 63)).toInt64) &&& (1 : Int64)) (0 : Int64))) = 0) [] 47 44 rfl (fun _ => rfl) (fun c2 => ?_) (fun c2 => ?_)
        · refine dw_g rfl ?_
          refine dg_s (pc' := 48) [.ref x0] rfl (fun _ => rfl) rfl ?_
          refine dg_s (pc' := 49) [.long x3, .ref x0] rfl (fun _ => rfl) rfl ?_
          refine dg_s (pc' := 51) [.int x7, .long x3, .ref x0] rfl (fun _ => rfl) rfl ?_
          refine dg_s (pc' := 53) [.int x5, .int x7, .long x3, .ref x0] rfl (fun _ => rfl) rfl ?_
          refine dw_b (fun t => Φ (Option.bind t (dc_bk (d_X1_choose_l19s x0)))) (pc' := 56) (fun q1 => [.int q1]) (fun q1 => m) rfl (fun _ => rfl) (fun q1 => ?_)
          refine dw_g rfl ?_
          refine dg_L (pc' := 58) [(8, .int q1), (0, .ref x0), (3, .long x3), (5, .int x5), (6, .int x6), (7, .int x7)] [] rfl (fun _ => rfl) rfl ?_
          refine dg_s (pc' := 60) [.int q1] rfl (fun _ => rfl) rfl ?_
          refine dw_if (fun t => Φ (Option.bind t (dc_bk (d_X1_choose_l19s x0)))) (0 ≤ (Int32.toInt q1)) [] 66 63 rfl (fun _ => rfl) (fun c3 => ?_) (fun c3 => ?_)
          · refine dw_g rfl ?_
            refine dg_s (pc' := 67) [.ref x0] rfl (fun _ => rfl) rfl ?_
            refine dg_s (pc' := 70) [.ref (x0 + 1)] rfl (fun _ => rfl) rfl ?_
            refine dg_s (pc' := 72) [.int x6, .ref (x0 + 1)] rfl (fun _ => rfl) rfl ?_
            refine dg_s (pc' := 73) [.ref x0, .int x6, .ref (x0 + 1)] rfl (fun _ => rfl) rfl ?_
            refine dg_s (pc' := 76) [.ref (x0 + 2), .int x6, .ref (x0 + 1)] rfl (fun _ => rfl) rfl ?_
            refine dg_s (pc' := 78) [.int q1, .ref (x0 + 2), .int x6, .ref (x0 + 1)] rfl (fun _ => rfl) rfl ?_
            refine dg_s (pc' := 79) [.int (m.1 (x0 + 2) (Int32.toNatClampNeg q1)), .int x6, .ref (x0 + 1)] rfl (fun _ => rfl) rfl ?_
            refine dg_m (pc' := 80) (dc_wi m (x0 + 1) (Int32.toNatClampNeg x6) (m.1 (x0 + 2) (Int32.toNatClampNeg q1))) [] rfl (fun _ => rfl) rfl ?_
            refine dg_L (pc' := 83) [(6, .int (x6 + (1 : Int32))), (8, .int q1), (0, .ref x0), (3, .long x3), (5, .int x5), (7, .int x7)] [] rfl (fun _ => rfl) rfl ?_
            refine dg_s (pc' := 85) [.int x5] rfl (fun _ => rfl) rfl ?_
            refine dg_s (pc' := 86) [.ref x0, .int x5] rfl (fun _ => rfl) rfl ?_
            refine dg_s (pc' := 89) [.ref (x0 + 3), .int x5] rfl (fun _ => rfl) rfl ?_
            refine dg_s (pc' := 91) [.int q1, .ref (x0 + 3), .int x5] rfl (fun _ => rfl) rfl ?_
            refine dg_s (pc' := 92) [.int ((dc_wi m (x0 + 1) (Int32.toNatClampNeg x6) (m.1 (x0 + 2) (Int32.toNatClampNeg q1))).1 (x0 + 3) (Int32.toNatClampNeg q1)), .int x5] rfl (fun _ => rfl) rfl ?_
            refine dg_s (pc' := 93) [.int (x5 - ((dc_wi m (x0 + 1) (Int32.toNatClampNeg x6) (m.1 (x0 + 2) (Int32.toNatClampNeg q1))).1 (x0 + 3) (Int32.toNatClampNeg q1)))] rfl (fun _ => rfl) rfl ?_
            refine dg_L (pc' := 95) [(5, .int (x5 - ((dc_wi m (x0 + 1) (Int32.toNatClampNeg x6) (m.1 (x0 + 2) (Int32.toNatClampNeg q1))).1 (x0 + 3) (Int32.toNatClampNeg q1)))), (6, .int (x6 + (1 : Int32))), (8, .int q1), (0, .ref x0), (3, .long x3), (7, .int x7)] [] rfl (fun _ => rfl) rfl ?_
            refine dg_s (pc' := 96) [.long x3] rfl (fun _ => rfl) rfl ?_
            refine dg_s (pc' := 97) [.ref x0, .long x3] rfl (fun _ => rfl) rfl ?_
            refine dg_s (pc' := 100) [.ref (x0 + 4), .long x3] rfl (fun _ => rfl) rfl ?_
            refine dg_s (pc' := 102) [.int q1, .ref (x0 + 4), .long x3] rfl (fun _ => rfl) rfl ?_
            refine dg_s (pc' := 103) [.long ((dc_wi m (x0 + 1) (Int32.toNatClampNeg x6) (m.1 (x0 + 2) (Int32.toNatClampNeg q1))).2.1 (x0 + 4) (Int32.toNatClampNeg q1)), .long x3] rfl (fun _ => rfl) rfl ?_
            refine dg_s (pc' := 106) [.long (-1 : Int64), .long ((dc_wi m (x0 + 1) (Int32.toNatClampNeg x6) (m.1 (x0 + 2) (Int32.toNatClampNeg q1))).2.1 (x0 + 4) (Int32.toNatClampNeg q1)), .long x3] rfl (fun _ => rfl) rfl ?_
            refine dg_s (pc' := 107) [.long (((dc_wi m (x0 + 1) (Int32.toNatClampNeg x6) (m.1 (x0 + 2) (Int32.toNatClampNeg q1))).2.1 (x0 + 4) (Int32.toNatClampNeg q1)) ^^^ (-1 : Int64)), .long x3] rfl (fun _ => rfl) rfl ?_
            refine dg_s (pc' := 108) [.long (x3 &&& (((dc_wi m (x0 + 1) (Int32.toNatClampNeg x6) (m.1 (x0 + 2) (Int32.toNatClampNeg q1))).2.1 (x0 + 4) (Int32.toNatClampNeg q1)) ^^^ (-1 : Int64)))] rfl (fun _ => rfl) rfl ?_
            refine dg_L (pc' := 109) [(3, .long (x3 &&& (((dc_wi m (x0 + 1) (Int32.toNatClampNeg x6) (m.1 (x0 + 2) (Int32.toNatClampNeg q1))).2.1 (x0 + 4) (Int32.toNatClampNeg q1)) ^^^ (-1 : Int64)))), (5, .int (x5 - ((dc_wi m (x0 + 1) (Int32.toNatClampNeg x6) (m.1 (x0 + 2) (Int32.toNatClampNeg q1))).1 (x0 + 3) (Int32.toNatClampNeg q1)))), (6, .int (x6 + (1 : Int32))), (8, .int q1), (0, .ref x0), (7, .int x7)] [] rfl (fun _ => rfl) rfl ?_
            refine dg_L (pc' := 112) [(7, .int (x7 + (1 : Int32))), (3, .long (x3 &&& (((dc_wi m (x0 + 1) (Int32.toNatClampNeg x6) (m.1 (x0 + 2) (Int32.toNatClampNeg q1))).2.1 (x0 + 4) (Int32.toNatClampNeg q1)) ^^^ (-1 : Int64)))), (5, .int (x5 - ((dc_wi m (x0 + 1) (Int32.toNatClampNeg x6) (m.1 (x0 + 2) (Int32.toNatClampNeg q1))).1 (x0 + 3) (Int32.toNatClampNeg q1)))), (6, .int (x6 + (1 : Int32))), (8, .int q1), (0, .ref x0)] [] rfl (fun _ => rfl) rfl ?_
            refine dw_s (pc' := 19) [] rfl (fun _ => rfl) ?_
            exact dw_j rfl (fun lv1 hv => ih (x3 &&& (((dc_wi m (x0 + 1) (Int32.toNatClampNeg x6) (m.1 (x0 + 2) (Int32.toNatClampNeg q1))).2.1 (x0 + 4) (Int32.toNatClampNeg q1)) ^^^ (-1 : Int64))) (x5 - ((dc_wi m (x0 + 1) (Int32.toNatClampNeg x6) (m.1 (x0 + 2) (Int32.toNatClampNeg q1))).1 (x0 + 3) (Int32.toNatClampNeg q1))) (x6 + (1 : Int32)) (x7 + (1 : Int32)) (dc_wi m (x0 + 1) (Int32.toNatClampNeg x6) (m.1 (x0 + 2) (Int32.toNatClampNeg q1))) lv1 (hv.1 _ rfl) (hv.2.1 _ rfl) (hv.2.2.1 _ rfl) (hv.2.2.2.1 _ rfl) (hv.2.2.2.2.1 _ rfl))
          · refine dw_g rfl ?_
            refine dg_s (pc' := 115) [] rfl (fun _ => rfl) rfl ?_
            refine dg_s (pc' := 117) [.int x6] rfl (fun _ => rfl) rfl ?_
            exact dw_r (some (.inl (some (.int x6), m))) rfl (fun _ => rfl) (kR _ _)
        · refine dw_g rfl ?_
          refine dg_s (pc' := 109) [] rfl (fun _ => rfl) rfl ?_
          refine dg_L (pc' := 112) [(7, .int (x7 + (1 : Int32))), (0, .ref x0), (3, .long x3), (5, .int x5), (6, .int x6)] [] rfl (fun _ => rfl) rfl ?_
          refine dw_s (pc' := 19) [] rfl (fun _ => rfl) ?_
          exact dw_j rfl (fun lv1 hv => ih x3 x5 x6 (x7 + (1 : Int32)) m lv1 (hv.1 _ rfl) (hv.2.1 _ rfl) (hv.2.2.1 _ rfl) (hv.2.2.2.1 _ rfl) (hv.2.2.2.2.1 _ rfl))
noncomputable def d_X1_choose (x0 : Nat) (x1 : Int64) (m : dc_M) : Option (Int32 × dc_M) :=
  ((d_X1_leastWeight x0 x1 (8448 : Int32) (0 : Int32) m).bind (fun q1 => (d_X1_choose_l19 x0 x1 q1 (0 : Int32) (0 : Int32) m)))
set_option maxHeartbeats 8000000 in
theorem k_X1_choose {u : Nat} {N : Nat} {Φ : (Option (Int32 × dc_M)) → Option Value → dc_M → Prop} (x0 : Nat) (x1 : Int64) (m : dc_M) (kR : ∀ (v : Int32) (m : dc_M), Φ (some ((v, m))) (some (.int v)) m)  {lv : ab_L} (f0 : ab_lk lv 0 = some (.ref x0)) (f1 : ab_lk lv 1 = some (.long x1)) : dc_pv u N ab_M_X1_choose 0 lv [] m (Φ (d_X1_choose x0 x1 m)) := by
  refine dc_pv.mono (dc_ok (C := C_X1_choose) (S := S_X1_choose) CO_X1_choose 400 0 [(0, .ref x0), (1, .long x1)] lv [] m (dc_sub_cons f0 (dc_sub_cons f1 (dc_sub_nil))) ?_) (Nat.le_succ N)
  unfold d_X1_choose
  refine dg_s (pc' := 1) [.long x1] rfl (fun _ => rfl) rfl ?_
  refine dg_L (pc' := 2) [(3, .long x1), (0, .ref x0), (1, .long x1)] [] rfl (fun _ => rfl) rfl ?_
  refine dg_s (pc' := 3) [.ref x0] rfl (fun _ => rfl) rfl ?_
  refine dg_s (pc' := 4) [.long x1, .ref x0] rfl (fun _ => rfl) rfl ?_
  refine dg_s (pc' := 7) [.int (8448 : Int32), .long x1, .ref x0] rfl (fun _ => rfl) rfl ?_
  refine dg_s (pc' := 8) [.int (0 : Int32), .int (8448 : Int32), .long x1, .ref x0] rfl (fun _ => rfl) rfl ?_
  refine dw_b (fun t => Φ t) (pc' := 11) (fun q1 => [.int q1]) (fun q1 => m) rfl (fun _ => rfl) (fun q1 => ?_)
  refine dw_g rfl ?_
  refine dg_L (pc' := 13) [(5, .int q1), (3, .long x1), (0, .ref x0), (1, .long x1)] [] rfl (fun _ => rfl) rfl ?_
  refine dg_s (pc' := 14) [.int (0 : Int32)] rfl (fun _ => rfl) rfl ?_
  refine dg_L (pc' := 16) [(6, .int (0 : Int32)), (5, .int q1), (3, .long x1), (0, .ref x0), (1, .long x1)] [] rfl (fun _ => rfl) rfl ?_
  refine dg_s (pc' := 17) [.int (0 : Int32)] rfl (fun _ => rfl) rfl ?_
  refine dw_L (pc' := 19) [(7, .int (0 : Int32)), (6, .int (0 : Int32)), (5, .int q1), (3, .long x1), (0, .ref x0), (1, .long x1)] [] rfl (fun _ => rfl) ?_
  exact dw_j rfl (fun lv1 hv => k_X1_choose_l19 (Φ := (fun t => Φ t)) x0 (fun _a _b => kR _a _b) N  x1 q1 (0 : Int32) (0 : Int32) m lv1 (hv.1 _ rfl) (hv.2.1 _ rfl) (hv.2.2.1 _ rfl) (hv.2.2.2.1 _ rfl) (hv.2.2.2.2.1 _ rfl))
noncomputable def H_X1_choose : dc_H := fun As m k => match As with
  | [.ref x0, .long x1] => (d_X1_choose x0 x1 m).bind (fun q => k (some (.int q.1)) q.2)
  | _ => dc_kz
theorem H_X1_choose_ok {u : Nat} : dc_cok u 11 H_X1_choose := fun M' hG N As m k P hz hP => by
  obtain rfl : ab_M_X1_choose = M' := Option.some.inj hG
  unfold H_X1_choose at hP
  split at hP
  · rename_i x0 x1
    exact dc_pv.imp (k_X1_choose (Φ := fun (t : Option (Int32 × dc_M)) r m' => P (t.bind (fun q => k (some (.int q.1)) q.2)) → P (k r m')) x0 x1 m (fun _ _ h => h) rfl rfl) (fun r m' h => h hP)
  · exact absurd hP hz
def C_X1_isPrime : List (Nat × dc_H) := []
theorem CO_X1_isPrime {u : Nat} : dc_CO u C_X1_isPrime := dc_CO_nil
def S_X1_isPrime : List (Nat × List Nat) := [(6, [1, 3, 5, 6, 7]), (47, [1, 3, 5, 6, 7, 8, 9])]
noncomputable def d_X1_isPrime_b47 (x1 : Int64) (x3 : Int64) (x5 : Int32) (x6 : Int32) (x7 : Int32) (x8 : Int32) (x9 : Int32) (m : dc_M) : Option ((Int32 × Int32) ⊕ Int32) :=
  (if ¬ (Int32.toInt x8) = 1 then some (Sum.inl (x6, (x7 + (1 : Int32)))) else (if ¬ (Int32.toInt (lg_cmp ((((x1).toUInt64 >>> ((Int32.toInt64 x9).toUInt64 &&& Int64.toUInt64 63)).toInt64) &&& x3) (0 : Int64))) = 0 then some (Sum.inl (x6, (x7 + (1 : Int32)))) else some (Sum.inr ((0 : Int32)))))
set_option maxHeartbeats 8000000 in
theorem k_X1_isPrime_b47 {u : Nat} {N : Nat} {Φ : (Option ((Int32 × Int32) ⊕ Int32)) → Option Value → dc_M → Prop} (x1 : Int64) (x3 : Int64) (x5 : Int32) (x6 : Int32) (x7 : Int32) (x8 : Int32) (x9 : Int32) (m : dc_M) (kR : ∀ (v : Int32), Φ (some (Sum.inr (v))) (some (.int v)) m) (k6 : ∀ (x6 : Int32) (x7 : Int32) (lv : ab_L), ab_lk lv 1 = some (.long x1) → ab_lk lv 3 = some (.long x3) → ab_lk lv 5 = some (.int x5) → ab_lk lv 6 = some (.int x6) → ab_lk lv 7 = some (.int x7) →  dc_pv u N ab_M_X1_isPrime 6 lv [] m (Φ (some (Sum.inl (x6, x7))))) {lv : ab_L} (f1 : ab_lk lv 1 = some (.long x1)) (f3 : ab_lk lv 3 = some (.long x3)) (f5 : ab_lk lv 5 = some (.int x5)) (f6 : ab_lk lv 6 = some (.int x6)) (f7 : ab_lk lv 7 = some (.int x7)) (f8 : ab_lk lv 8 = some (.int x8)) (f9 : ab_lk lv 9 = some (.int x9)) : dc_pv u N ab_M_X1_isPrime 47 lv [] m (Φ (d_X1_isPrime_b47 x1 x3 x5 x6 x7 x8 x9 m)) := by
  refine dc_pv.mono (dc_ok (C := C_X1_isPrime) (S := S_X1_isPrime) CO_X1_isPrime 400 47 [(1, .long x1), (3, .long x3), (5, .int x5), (6, .int x6), (7, .int x7), (8, .int x8), (9, .int x9)] lv [] m (dc_sub_cons f1 (dc_sub_cons f3 (dc_sub_cons f5 (dc_sub_cons f6 (dc_sub_cons f7 (dc_sub_cons f8 (dc_sub_cons f9 (dc_sub_nil)))))))) ?_) (Nat.le_succ N)
  unfold d_X1_isPrime_b47
  refine dg_s (pc' := 49) [.int x8] rfl (fun _ => rfl) rfl ?_
  refine dg_s (pc' := 50) [.int (1 : Int32), .int x8] rfl (fun _ => rfl) rfl ?_
  refine dw_if (fun t => Φ t) (¬ (Int32.toInt x8) = 1) [] 66 53 rfl (fun _ => rfl) (fun c0 => ?_) (fun c0 => ?_)
  · refine dw_g rfl ?_
    refine dg_L (pc' := 69) [(7, .int (x7 + (1 : Int32))), (1, .long x1), (3, .long x3), (5, .int x5), (6, .int x6), (8, .int x8), (9, .int x9)] [] rfl (fun _ => rfl) rfl ?_
    refine dw_s (pc' := 6) [] rfl (fun _ => rfl) ?_
    exact dw_j rfl (fun lv1 hv => k6 x6 (x7 + (1 : Int32)) lv1 (hv.1 _ rfl) (hv.2.1 _ rfl) (hv.2.2.1 _ rfl) (hv.2.2.2.1 _ rfl) (hv.2.2.2.2.1 _ rfl))
  · refine dw_g rfl ?_
    refine dg_s (pc' := 54) [.long x1] rfl (fun _ => rfl) rfl ?_
    refine dg_s (pc' := 56) [.int x9, .long x1] rfl (fun _ => rfl) rfl ?_
    refine dg_s (pc' := 57) [.long (((x1).toUInt64 >>> ((Int32.toInt64 x9).toUInt64 &&& Int64.toUInt64 63)).toInt64)] rfl (fun _ => rfl) rfl ?_
    refine dg_s (pc' := 58) [.long x3, .long (((x1).toUInt64 >>> ((Int32.toInt64 x9).toUInt64 &&& Int64.toUInt64 63)).toInt64)] rfl (fun _ => rfl) rfl ?_
    refine dg_s (pc' := 59) [.long ((((x1).toUInt64 >>> ((Int32.toInt64 x9).toUInt64 &&& Int64.toUInt64 63)).toInt64) &&& x3)] rfl (fun _ => rfl) rfl ?_
    refine dg_s (pc' := 60) [.long (0 : Int64), .long ((((x1).toUInt64 >>> ((Int32.toInt64 x9).toUInt64 &&& Int64.toUInt64 63)).toInt64) &&& x3)] rfl (fun _ => rfl) rfl ?_
    refine dg_s (pc' := 61) [.int (lg_cmp ((((x1).toUInt64 >>> ((Int32.toInt64 x9).toUInt64 &&& Int64.toUInt64 63)).toInt64) &&& x3) (0 : Int64))] rfl (fun _ => rfl) rfl ?_
    refine dw_if (fun t => Φ t) (¬ (Int32.toInt (lg_cmp ((((x1).toUInt64 >>> ((Int32.toInt64 x9).toUInt64 &&& Int64.toUInt64 63)).toInt64) &&& x3) (0 : Int64))) = 0) [] 66 64 rfl (fun _ => rfl) (fun c1 => ?_) (fun c1 => ?_)
    · refine dw_g rfl ?_
      refine dg_L (pc' := 69) [(7, .int (x7 + (1 : Int32))), (1, .long x1), (3, .long x3), (5, .int x5), (6, .int x6), (8, .int x8), (9, .int x9)] [] rfl (fun _ => rfl) rfl ?_
      refine dw_s (pc' := 6) [] rfl (fun _ => rfl) ?_
      exact dw_j rfl (fun lv1 hv => k6 x6 (x7 + (1 : Int32)) lv1 (hv.1 _ rfl) (hv.2.1 _ rfl) (hv.2.2.1 _ rfl) (hv.2.2.2.1 _ rfl) (hv.2.2.2.2.1 _ rfl))
    · refine dw_g rfl ?_
      refine dg_s (pc' := 65) [.int (0 : Int32)] rfl (fun _ => rfl) rfl ?_
      exact dw_r (some (.inl (some (.int (0 : Int32)), m))) rfl (fun _ => rfl) (kR _)
noncomputable def d_X1_isPrime_l6b (x1 : Int64) (x3 : Int64) (x5 : Int32) (x6 : Int32) (x7 : Int32) (m : dc_M) : Option ((Int32 × Int32) ⊕ Int32) :=
  (if (Int32.toInt x5) ≤ (Int32.toInt x7) then some (Sum.inr ((1 : Int32))) else (if ¬ (Int32.toInt (x6 - x6 / (3 : Int32) * (3 : Int32))) = 0 then (d_X1_isPrime_b47 x1 x3 x5 (x6 / (3 : Int32)) x7 (x6 - x6 / (3 : Int32) * (3 : Int32)) ((1 : Int32) <<< (x7 &&& 31)) m) else (if (Int32.toInt (lg_cmp ((x1 <<< (Int32.toInt64 ((1 : Int32) <<< (x7 &&& 31)) &&& 63)) &&& x3) (0 : Int64))) = 0 then some (Sum.inr ((0 : Int32))) else (d_X1_isPrime_b47 x1 x3 x5 (x6 / (3 : Int32)) x7 (x6 - x6 / (3 : Int32) * (3 : Int32)) ((1 : Int32) <<< (x7 &&& 31)) m))))
noncomputable def d_X1_isPrime_l6s (x1 : Int64) (x3 : Int64) (x5 : Int32) (m : dc_M) : (Int32 × Int32) → Option ((Int32 × Int32) ⊕ Int32) := fun s => d_X1_isPrime_l6b x1 x3 x5 s.1 s.2 m
noncomputable def d_X1_isPrime_l6 (x1 : Int64) (x3 : Int64) (x5 : Int32) (x6 : Int32) (x7 : Int32) (m : dc_M) : Option Int32 := dc_lp (d_X1_isPrime_l6s x1 x3 x5 m) (x6, x7)
set_option maxHeartbeats 8000000 in
theorem k_X1_isPrime_l6 {u : Nat} {Φ : (Option Int32) → Option Value → dc_M → Prop} (x1 : Int64) (x3 : Int64) (x5 : Int32) (m : dc_M) (kR : ∀ (v : Int32), Φ (some (v)) (some (.int v)) m) : ∀ (N : Nat), ∀ (x6 : Int32) (x7 : Int32) (lv : ab_L), ab_lk lv 1 = some (.long x1) → ab_lk lv 3 = some (.long x3) → ab_lk lv 5 = some (.int x5) → ab_lk lv 6 = some (.int x6) → ab_lk lv 7 = some (.int x7) → dc_pv u N ab_M_X1_isPrime 6 lv [] m (Φ (d_X1_isPrime_l6 x1 x3 x5 x6 x7 m)) := by
  intro N
  induction N with
  | zero => intros; exact dc_pv_zero
  | succ N ih =>
    intro x6 x7 lv f1 f3 f5 f6 f7
    refine dc_ok (C := C_X1_isPrime) (S := S_X1_isPrime) CO_X1_isPrime 400 6 [(1, .long x1), (3, .long x3), (5, .int x5), (6, .int x6), (7, .int x7)] lv [] m (dc_sub_cons f1 (dc_sub_cons f3 (dc_sub_cons f5 (dc_sub_cons f6 (dc_sub_cons f7 (dc_sub_nil)))))) ?_
    unfold d_X1_isPrime_l6
    rw [dc_lp_eq]
    show (fun t x => dc_lf u N ab_M_X1_isPrime (Φ (Option.bind t (dc_bk (d_X1_isPrime_l6s x1 x3 x5 m)))) x) (d_X1_isPrime_l6b x1 x3 x5 x6 x7 m) _
    dsimp only
    unfold d_X1_isPrime_l6b
    refine dg_s (pc' := 8) [.int x7] rfl (fun _ => rfl) rfl ?_
    refine dg_s (pc' := 10) [.int x5, .int x7] rfl (fun _ => rfl) rfl ?_
    refine dw_if (fun t => Φ (Option.bind t (dc_bk (d_X1_isPrime_l6s x1 x3 x5 m)))) ((Int32.toInt x5) ≤ (Int32.toInt x7)) [] 72 13 rfl (fun _ => rfl) (fun c0 => ?_) (fun c0 => ?_)
    · refine dw_g rfl ?_
      refine dg_s (pc' := 73) [.int (1 : Int32)] rfl (fun _ => rfl) rfl ?_
      exact dw_r (some (.inl (some (.int (1 : Int32)), m))) rfl (fun _ => rfl) (kR _)
    · refine dw_g rfl ?_
      refine dg_s (pc' := 15) [.int x6] rfl (fun _ => rfl) rfl ?_
      refine dg_s (pc' := 16) [.int (3 : Int32), .int x6] rfl (fun _ => rfl) rfl ?_
      refine dg_s (pc' := 17) [.int (x6 - x6 / (3 : Int32) * (3 : Int32))] rfl (fun _ => rfl) rfl ?_
      refine dg_L (pc' := 19) [(8, .int (x6 - x6 / (3 : Int32) * (3 : Int32))), (1, .long x1), (3, .long x3), (5, .int x5), (6, .int x6), (7, .int x7)] [] rfl (fun _ => rfl) rfl ?_
      refine dg_s (pc' := 21) [.int x6] rfl (fun _ => rfl) rfl ?_
      refine dg_s (pc' := 22) [.int (3 : Int32), .int x6] rfl (fun _ => rfl) rfl ?_
      refine dg_s (pc' := 23) [.int (x6 / (3 : Int32))] rfl (fun _ => rfl) rfl ?_
      refine dg_L (pc' := 25) [(6, .int (x6 / (3 : Int32))), (8, .int (x6 - x6 / (3 : Int32) * (3 : Int32))), (1, .long x1), (3, .long x3), (5, .int x5), (7, .int x7)] [] rfl (fun _ => rfl) rfl ?_
      refine dg_s (pc' := 26) [.int (1 : Int32)] rfl (fun _ => rfl) rfl ?_
      refine dg_s (pc' := 28) [.int x7, .int (1 : Int32)] rfl (fun _ => rfl) rfl ?_
      refine dg_s (pc' := 29) [.int ((1 : Int32) <<< (x7 &&& 31))] rfl (fun _ => rfl) rfl ?_
      refine dg_L (pc' := 31) [(9, .int ((1 : Int32) <<< (x7 &&& 31))), (6, .int (x6 / (3 : Int32))), (8, .int (x6 - x6 / (3 : Int32) * (3 : Int32))), (1, .long x1), (3, .long x3), (5, .int x5), (7, .int x7)] [] rfl (fun _ => rfl) rfl ?_
      refine dg_s (pc' := 33) [.int (x6 - x6 / (3 : Int32) * (3 : Int32))] rfl (fun _ => rfl) rfl ?_
      refine dw_if (fun t => Φ (Option.bind t (dc_bk (d_X1_isPrime_l6s x1 x3 x5 m)))) (¬ (Int32.toInt (x6 - x6 / (3 : Int32) * (3 : Int32))) = 0) [] 47 36 rfl (fun _ => rfl) (fun c1 => ?_) (fun c1 => ?_)
      · exact dw_j rfl (fun lv1 hv => k_X1_isPrime_b47 (Φ := (fun t => Φ (Option.bind t (dc_bk (d_X1_isPrime_l6s x1 x3 x5 m))))) x1 x3 x5 (x6 / (3 : Int32)) x7 (x6 - x6 / (3 : Int32) * (3 : Int32)) ((1 : Int32) <<< (x7 &&& 31)) m (fun _a  => kR _a) ih (hv.1 _ rfl) (hv.2.1 _ rfl) (hv.2.2.1 _ rfl) (hv.2.2.2.1 _ rfl) (hv.2.2.2.2.1 _ rfl) (hv.2.2.2.2.2.1 _ rfl) (hv.2.2.2.2.2.2.1 _ rfl))
      · refine dw_g rfl ?_
        refine dg_s (pc' := 37) [.long x1] rfl (fun _ => rfl) rfl ?_
        refine dg_s (pc' := 39) [.int ((1 : Int32) <<< (x7 &&& 31)), .long x1] rfl (fun _ => rfl) rfl ?_
        refine dg_s (pc' := 40) [.long (x1 <<< (Int32.toInt64 ((1 : Int32) <<< (x7 &&& 31)) &&& 63))] rfl (fun _ => rfl) rfl ?_
        refine dg_s (pc' := 41) [.long x3, .long (x1 <<< (Int32.toInt64 ((1 : Int32) <<< (x7 &&& 31)) &&& 63))] rfl (fun _ => rfl) rfl ?_
        refine dg_s (pc' := 42) [.long ((x1 <<< (Int32.toInt64 ((1 : Int32) <<< (x7 &&& 31)) &&& 63)) &&& x3)] rfl (fun _ => rfl) rfl ?_
        refine dg_s (pc' := 43) [.long (0 : Int64), .long ((x1 <<< (Int32.toInt64 ((1 : Int32) <<< (x7 &&& 31)) &&& 63)) &&& x3)] rfl (fun _ => rfl) rfl ?_
        refine dg_s (pc' := 44) [.int (lg_cmp ((x1 <<< (Int32.toInt64 ((1 : Int32) <<< (x7 &&& 31)) &&& 63)) &&& x3) (0 : Int64))] rfl (fun _ => rfl) rfl ?_
        refine dw_if (fun t => Φ (Option.bind t (dc_bk (d_X1_isPrime_l6s x1 x3 x5 m)))) ((Int32.toInt (lg_cmp ((x1 <<< (Int32.toInt64 ((1 : Int32) <<< (x7 &&& 31)) &&& 63)) &&& x3) (0 : Int64))) = 0) [] 64 47 rfl (fun _ => rfl) (fun c2 => ?_) (fun c2 => ?_)
        · refine dw_g rfl ?_
          refine dg_s (pc' := 65) [.int (0 : Int32)] rfl (fun _ => rfl) rfl ?_
          exact dw_r (some (.inl (some (.int (0 : Int32)), m))) rfl (fun _ => rfl) (kR _)
        · exact dw_j rfl (fun lv1 hv => k_X1_isPrime_b47 (Φ := (fun t => Φ (Option.bind t (dc_bk (d_X1_isPrime_l6s x1 x3 x5 m))))) x1 x3 x5 (x6 / (3 : Int32)) x7 (x6 - x6 / (3 : Int32) * (3 : Int32)) ((1 : Int32) <<< (x7 &&& 31)) m (fun _a  => kR _a) ih (hv.1 _ rfl) (hv.2.1 _ rfl) (hv.2.2.1 _ rfl) (hv.2.2.2.1 _ rfl) (hv.2.2.2.2.1 _ rfl) (hv.2.2.2.2.2.1 _ rfl) (hv.2.2.2.2.2.2.1 _ rfl))
noncomputable def d_X1_isPrime (x0 : Int32) (x1 : Int64) (x3 : Int64) (x5 : Int32) (m : dc_M) : Option Int32 :=
  (d_X1_isPrime_l6 x1 x3 x5 x0 (0 : Int32) m)
set_option maxHeartbeats 8000000 in
theorem k_X1_isPrime {u : Nat} {N : Nat} {Φ : (Option Int32) → Option Value → dc_M → Prop} (x0 : Int32) (x1 : Int64) (x3 : Int64) (x5 : Int32) (m : dc_M) (kR : ∀ (v : Int32), Φ (some (v)) (some (.int v)) m)  {lv : ab_L} (f0 : ab_lk lv 0 = some (.int x0)) (f1 : ab_lk lv 1 = some (.long x1)) (f3 : ab_lk lv 3 = some (.long x3)) (f5 : ab_lk lv 5 = some (.int x5)) : dc_pv u N ab_M_X1_isPrime 0 lv [] m (Φ (d_X1_isPrime x0 x1 x3 x5 m)) := by
  refine dc_pv.mono (dc_ok (C := C_X1_isPrime) (S := S_X1_isPrime) CO_X1_isPrime 400 0 [(0, .int x0), (1, .long x1), (3, .long x3), (5, .int x5)] lv [] m (dc_sub_cons f0 (dc_sub_cons f1 (dc_sub_cons f3 (dc_sub_cons f5 (dc_sub_nil))))) ?_) (Nat.le_succ N)
  unfold d_X1_isPrime
  refine dg_s (pc' := 1) [.int x0] rfl (fun _ => rfl) rfl ?_
  refine dg_L (pc' := 3) [(6, .int x0), (0, .int x0), (1, .long x1), (3, .long x3), (5, .int x5)] [] rfl (fun _ => rfl) rfl ?_
  refine dg_s (pc' := 4) [.int (0 : Int32)] rfl (fun _ => rfl) rfl ?_
  refine dw_L (pc' := 6) [(7, .int (0 : Int32)), (6, .int x0), (0, .int x0), (1, .long x1), (3, .long x3), (5, .int x5)] [] rfl (fun _ => rfl) ?_
  exact dw_j rfl (fun lv1 hv => k_X1_isPrime_l6 (Φ := (fun t => Φ t)) x1 x3 x5 m (fun _a  => kR _a) N  x0 (0 : Int32) lv1 (hv.1 _ rfl) (hv.2.1 _ rfl) (hv.2.2.1 _ rfl) (hv.2.2.2.1 _ rfl) (hv.2.2.2.2.1 _ rfl))
noncomputable def H_X1_isPrime : dc_H := fun As m k => match As with
  | [.int x0, .long x1, .long x3, .int x5] => (d_X1_isPrime x0 x1 x3 x5 m).bind (fun q => k (some (.int q)) m)
  | _ => dc_kz
theorem H_X1_isPrime_ok {u : Nat} : dc_cok u 8 H_X1_isPrime := fun M' hG N As m k P hz hP => by
  obtain rfl : ab_M_X1_isPrime = M' := Option.some.inj hG
  unfold H_X1_isPrime at hP
  split at hP
  · rename_i x0 x1 x3 x5
    exact dc_pv.imp (k_X1_isPrime (Φ := fun (t : Option Int32) r m' => P (t.bind (fun q => k (some (.int q)) m)) → P (k r m')) x0 x1 x3 x5 m (fun _  h => h) rfl rfl rfl rfl) (fun r m' h => h hP)
  · exact absurd hP hz
def C_X1_putInOrder : List (Nat × dc_H) := []
theorem CO_X1_putInOrder {u : Nat} : dc_CO u C_X1_putInOrder := dc_CO_nil
def S_X1_putInOrder : List (Nat × List Nat) := [(5, [0, 1, 2])]
noncomputable def d_X1_putInOrder_l5b (x0 : Nat) (x1 : Int32) (x2 : Int32) (m : dc_M) : Option ((Int32 × dc_M) ⊕ dc_M) :=
  (if (Int32.toInt x2) ≤ 0 then some (Sum.inr ((dc_wi (dc_wi m (x0 + 8) (Int32.toNatClampNeg x2) x1) x0 9 (((dc_wi m (x0 + 8) (Int32.toNatClampNeg x2) x1).1 x0 9) + (1 : Int32))))) else (if (Int32.toInt (m.1 (x0 + 5) (Int32.toNatClampNeg (m.1 (x0 + 8) (Int32.toNatClampNeg (x2 - (1 : Int32))))))) ≤ (Int32.toInt (m.1 (x0 + 5) (Int32.toNatClampNeg x1))) then some (Sum.inr ((dc_wi (dc_wi m (x0 + 8) (Int32.toNatClampNeg x2) x1) x0 9 (((dc_wi m (x0 + 8) (Int32.toNatClampNeg x2) x1).1 x0 9) + (1 : Int32))))) else some (Sum.inl ((x2 + (-1)), (dc_wi m (x0 + 8) (Int32.toNatClampNeg x2) (m.1 (x0 + 8) (Int32.toNatClampNeg (x2 - (1 : Int32)))))))))
noncomputable def d_X1_putInOrder_l5s (x0 : Nat) (x1 : Int32) : (Int32 × dc_M) → Option ((Int32 × dc_M) ⊕ dc_M) := fun s => d_X1_putInOrder_l5b x0 x1 s.1 s.2
noncomputable def d_X1_putInOrder_l5 (x0 : Nat) (x1 : Int32) (x2 : Int32) (m : dc_M) : Option dc_M := dc_lp (d_X1_putInOrder_l5s x0 x1) (x2, m)
set_option maxHeartbeats 8000000 in
theorem k_X1_putInOrder_l5 {u : Nat} {Φ : (Option dc_M) → Option Value → dc_M → Prop} (x0 : Nat) (x1 : Int32) (kR : ∀  (m : dc_M), Φ (some (m)) (none) m) : ∀ (N : Nat), ∀ (x2 : Int32) (m : dc_M) (lv : ab_L), ab_lk lv 0 = some (.ref x0) → ab_lk lv 1 = some (.int x1) → ab_lk lv 2 = some (.int x2) → dc_pv u N ab_M_X1_putInOrder 5 lv [] m (Φ (d_X1_putInOrder_l5 x0 x1 x2 m)) := by
  intro N
  induction N with
  | zero => intros; exact dc_pv_zero
  | succ N ih =>
    intro x2 m lv f0 f1 f2
    refine dc_ok (C := C_X1_putInOrder) (S := S_X1_putInOrder) CO_X1_putInOrder 400 5 [(0, .ref x0), (1, .int x1), (2, .int x2)] lv [] m (dc_sub_cons f0 (dc_sub_cons f1 (dc_sub_cons f2 (dc_sub_nil)))) ?_
    unfold d_X1_putInOrder_l5
    rw [dc_lp_eq]
    show (fun t x => dc_lf u N ab_M_X1_putInOrder (Φ (Option.bind t (dc_bk (d_X1_putInOrder_l5s x0 x1)))) x) (d_X1_putInOrder_l5b x0 x1 x2 m) _
    dsimp only
    unfold d_X1_putInOrder_l5b
    refine dg_s (pc' := 6) [.int x2] rfl (fun _ => rfl) rfl ?_
    refine dw_if (fun t => Φ (Option.bind t (dc_bk (d_X1_putInOrder_l5s x0 x1)))) ((Int32.toInt x2) ≤ 0) [] 51 9 rfl (fun _ => rfl) (fun c0 => ?_) (fun c0 => ?_)
    · refine dw_g rfl ?_
      refine dg_s (pc' := 52) [.ref x0] rfl (fun _ => rfl) rfl ?_
      refine dg_s (pc' := 55) [.ref (x0 + 8)] rfl (fun _ => rfl) rfl ?_
      refine dg_s (pc' := 56) [.int x2, .ref (x0 + 8)] rfl (fun _ => rfl) rfl ?_
      refine dg_s (pc' := 57) [.int x1, .int x2, .ref (x0 + 8)] rfl (fun _ => rfl) rfl ?_
      refine dg_m (pc' := 58) (dc_wi m (x0 + 8) (Int32.toNatClampNeg x2) x1) [] rfl (fun _ => rfl) rfl ?_
      refine dg_s (pc' := 59) [.ref x0] rfl (fun _ => rfl) rfl ?_
      refine dg_s (pc' := 60) [.ref x0, .ref x0] rfl (fun _ => rfl) rfl ?_
      refine dg_s (pc' := 63) [.int ((dc_wi m (x0 + 8) (Int32.toNatClampNeg x2) x1).1 x0 9), .ref x0] rfl (fun _ => rfl) rfl ?_
      refine dg_s (pc' := 64) [.int (1 : Int32), .int ((dc_wi m (x0 + 8) (Int32.toNatClampNeg x2) x1).1 x0 9), .ref x0] rfl (fun _ => rfl) rfl ?_
      refine dg_s (pc' := 65) [.int (((dc_wi m (x0 + 8) (Int32.toNatClampNeg x2) x1).1 x0 9) + (1 : Int32)), .ref x0] rfl (fun _ => rfl) rfl ?_
      refine dg_m (pc' := 68) (dc_wi (dc_wi m (x0 + 8) (Int32.toNatClampNeg x2) x1) x0 9 (((dc_wi m (x0 + 8) (Int32.toNatClampNeg x2) x1).1 x0 9) + (1 : Int32))) [] rfl (fun _ => rfl) rfl ?_
      exact dw_r (some (.inl (none, (dc_wi (dc_wi m (x0 + 8) (Int32.toNatClampNeg x2) x1) x0 9 (((dc_wi m (x0 + 8) (Int32.toNatClampNeg x2) x1).1 x0 9) + (1 : Int32)))))) rfl (fun _ => rfl) (kR _)
    · refine dw_g rfl ?_
      refine dg_s (pc' := 10) [.ref x0] rfl (fun _ => rfl) rfl ?_
      refine dg_s (pc' := 13) [.ref (x0 + 5)] rfl (fun _ => rfl) rfl ?_
      refine dg_s (pc' := 14) [.ref x0, .ref (x0 + 5)] rfl (fun _ => rfl) rfl ?_
      refine dg_s (pc' := 17) [.ref (x0 + 8), .ref (x0 + 5)] rfl (fun _ => rfl) rfl ?_
      refine dg_s (pc' := 18) [.int x2, .ref (x0 + 8), .ref (x0 + 5)] rfl (fun _ => rfl) rfl ?_
      refine dg_s (pc' := 19) [.int (1 : Int32), .int x2, .ref (x0 + 8), .ref (x0 + 5)] rfl (fun _ => rfl) rfl ?_
      refine dg_s (pc' := 20) [.int (x2 - (1 : Int32)), .ref (x0 + 8), .ref (x0 + 5)] rfl (fun _ => rfl) rfl ?_
      refine dg_s (pc' := 21) [.int (m.1 (x0 + 8) (Int32.toNatClampNeg (x2 - (1 : Int32)))), .ref (x0 + 5)] rfl (fun _ => rfl) rfl ?_
      refine dg_s (pc' := 22) [.int (m.1 (x0 + 5) (Int32.toNatClampNeg (m.1 (x0 + 8) (Int32.toNatClampNeg (x2 - (1 : Int32))))))] rfl (fun _ => rfl) rfl ?_
      refine dg_s (pc' := 23) [.ref x0, .int (m.1 (x0 + 5) (Int32.toNatClampNeg (m.1 (x0 + 8) (Int32.toNatClampNeg (x2 - (1 : Int32))))))] rfl (fun _ => rfl) rfl ?_
      refine dg_s (pc' := 26) [.ref (x0 + 5), .int (m.1 (x0 + 5) (Int32.toNatClampNeg (m.1 (x0 + 8) (Int32.toNatClampNeg (x2 - (1 : Int32))))))] rfl (fun _ => rfl) rfl ?_
      refine dg_s (pc' := 27) [.int x1, .ref (x0 + 5), .int (m.1 (x0 + 5) (Int32.toNatClampNeg (m.1 (x0 + 8) (Int32.toNatClampNeg (x2 - (1 : Int32))))))] rfl (fun _ => rfl) rfl ?_
      refine dg_s (pc' := 28) [.int (m.1 (x0 + 5) (Int32.toNatClampNeg x1)), .int (m.1 (x0 + 5) (Int32.toNatClampNeg (m.1 (x0 + 8) (Int32.toNatClampNeg (x2 - (1 : Int32))))))] rfl (fun _ => rfl) rfl ?_
      refine dw_if (fun t => Φ (Option.bind t (dc_bk (d_X1_putInOrder_l5s x0 x1)))) ((Int32.toInt (m.1 (x0 + 5) (Int32.toNatClampNeg (m.1 (x0 + 8) (Int32.toNatClampNeg (x2 - (1 : Int32))))))) ≤ (Int32.toInt (m.1 (x0 + 5) (Int32.toNatClampNeg x1)))) [] 51 31 rfl (fun _ => rfl) (fun c1 => ?_) (fun c1 => ?_)
      · refine dw_g rfl ?_
        refine dg_s (pc' := 52) [.ref x0] rfl (fun _ => rfl) rfl ?_
        refine dg_s (pc' := 55) [.ref (x0 + 8)] rfl (fun _ => rfl) rfl ?_
        refine dg_s (pc' := 56) [.int x2, .ref (x0 + 8)] rfl (fun _ => rfl) rfl ?_
        refine dg_s (pc' := 57) [.int x1, .int x2, .ref (x0 + 8)] rfl (fun _ => rfl) rfl ?_
        refine dg_m (pc' := 58) (dc_wi m (x0 + 8) (Int32.toNatClampNeg x2) x1) [] rfl (fun _ => rfl) rfl ?_
        refine dg_s (pc' := 59) [.ref x0] rfl (fun _ => rfl) rfl ?_
        refine dg_s (pc' := 60) [.ref x0, .ref x0] rfl (fun _ => rfl) rfl ?_
        refine dg_s (pc' := 63) [.int ((dc_wi m (x0 + 8) (Int32.toNatClampNeg x2) x1).1 x0 9), .ref x0] rfl (fun _ => rfl) rfl ?_
        refine dg_s (pc' := 64) [.int (1 : Int32), .int ((dc_wi m (x0 + 8) (Int32.toNatClampNeg x2) x1).1 x0 9), .ref x0] rfl (fun _ => rfl) rfl ?_
        refine dg_s (pc' := 65) [.int (((dc_wi m (x0 + 8) (Int32.toNatClampNeg x2) x1).1 x0 9) + (1 : Int32)), .ref x0] rfl (fun _ => rfl) rfl ?_
        refine dg_m (pc' := 68) (dc_wi (dc_wi m (x0 + 8) (Int32.toNatClampNeg x2) x1) x0 9 (((dc_wi m (x0 + 8) (Int32.toNatClampNeg x2) x1).1 x0 9) + (1 : Int32))) [] rfl (fun _ => rfl) rfl ?_
        exact dw_r (some (.inl (none, (dc_wi (dc_wi m (x0 + 8) (Int32.toNatClampNeg x2) x1) x0 9 (((dc_wi m (x0 + 8) (Int32.toNatClampNeg x2) x1).1 x0 9) + (1 : Int32)))))) rfl (fun _ => rfl) (kR _)
      · refine dw_g rfl ?_
        refine dg_s (pc' := 32) [.ref x0] rfl (fun _ => rfl) rfl ?_
        refine dg_s (pc' := 35) [.ref (x0 + 8)] rfl (fun _ => rfl) rfl ?_
        refine dg_s (pc' := 36) [.int x2, .ref (x0 + 8)] rfl (fun _ => rfl) rfl ?_
        refine dg_s (pc' := 37) [.ref x0, .int x2, .ref (x0 + 8)] rfl (fun _ => rfl) rfl ?_
        refine dg_s (pc' := 40) [.ref (x0 + 8), .int x2, .ref (x0 + 8)] rfl (fun _ => rfl) rfl ?_
        refine dg_s (pc' := 41) [.int x2, .ref (x0 + 8), .int x2, .ref (x0 + 8)] rfl (fun _ => rfl) rfl ?_
        refine dg_s (pc' := 42) [.int (1 : Int32), .int x2, .ref (x0 + 8), .int x2, .ref (x0 + 8)] rfl (fun _ => rfl) rfl ?_
        refine dg_s (pc' := 43) [.int (x2 - (1 : Int32)), .ref (x0 + 8), .int x2, .ref (x0 + 8)] rfl (fun _ => rfl) rfl ?_
        refine dg_s (pc' := 44) [.int (m.1 (x0 + 8) (Int32.toNatClampNeg (x2 - (1 : Int32)))), .int x2, .ref (x0 + 8)] rfl (fun _ => rfl) rfl ?_
        refine dg_m (pc' := 45) (dc_wi m (x0 + 8) (Int32.toNatClampNeg x2) (m.1 (x0 + 8) (Int32.toNatClampNeg (x2 - (1 : Int32))))) [] rfl (fun _ => rfl) rfl ?_
        refine dg_L (pc' := 48) [(2, .int (x2 + (-1))), (0, .ref x0), (1, .int x1)] [] rfl (fun _ => rfl) rfl ?_
        refine dw_s (pc' := 5) [] rfl (fun _ => rfl) ?_
        exact dw_j rfl (fun lv1 hv => ih (x2 + (-1)) (dc_wi m (x0 + 8) (Int32.toNatClampNeg x2) (m.1 (x0 + 8) (Int32.toNatClampNeg (x2 - (1 : Int32))))) lv1 (hv.1 _ rfl) (hv.2.1 _ rfl) (hv.2.2.1 _ rfl))
noncomputable def d_X1_putInOrder (x0 : Nat) (x1 : Int32) (m : dc_M) : Option dc_M :=
  (d_X1_putInOrder_l5 x0 x1 (m.1 x0 9) m)
set_option maxHeartbeats 8000000 in
theorem k_X1_putInOrder {u : Nat} {N : Nat} {Φ : (Option dc_M) → Option Value → dc_M → Prop} (x0 : Nat) (x1 : Int32) (m : dc_M) (kR : ∀  (m : dc_M), Φ (some (m)) (none) m)  {lv : ab_L} (f0 : ab_lk lv 0 = some (.ref x0)) (f1 : ab_lk lv 1 = some (.int x1)) : dc_pv u N ab_M_X1_putInOrder 0 lv [] m (Φ (d_X1_putInOrder x0 x1 m)) := by
  refine dc_pv.mono (dc_ok (C := C_X1_putInOrder) (S := S_X1_putInOrder) CO_X1_putInOrder 400 0 [(0, .ref x0), (1, .int x1)] lv [] m (dc_sub_cons f0 (dc_sub_cons f1 (dc_sub_nil))) ?_) (Nat.le_succ N)
  unfold d_X1_putInOrder
  refine dg_s (pc' := 1) [.ref x0] rfl (fun _ => rfl) rfl ?_
  refine dg_s (pc' := 4) [.int (m.1 x0 9)] rfl (fun _ => rfl) rfl ?_
  refine dw_L (pc' := 5) [(2, .int (m.1 x0 9)), (0, .ref x0), (1, .int x1)] [] rfl (fun _ => rfl) ?_
  exact dw_j rfl (fun lv1 hv => k_X1_putInOrder_l5 (Φ := (fun t => Φ t)) x0 x1 (fun _b => kR _b) N  (m.1 x0 9) m lv1 (hv.1 _ rfl) (hv.2.1 _ rfl) (hv.2.2.1 _ rfl))
noncomputable def H_X1_putInOrder : dc_H := fun As m k => match As with
  | [.ref x0, .int x1] => (d_X1_putInOrder x0 x1 m).bind (fun q => k (none) q)
  | _ => dc_kz
theorem H_X1_putInOrder_ok {u : Nat} : dc_cok u 10 H_X1_putInOrder := fun M' hG N As m k P hz hP => by
  obtain rfl : ab_M_X1_putInOrder = M' := Option.some.inj hG
  unfold H_X1_putInOrder at hP
  split at hP
  · rename_i x0 x1
    exact dc_pv.imp (k_X1_putInOrder (Φ := fun (t : Option dc_M) r m' => P (t.bind (fun q => k (none) q)) → P (k r m')) x0 x1 m (fun _ h => h) rfl rfl) (fun r m' h => h hP)
  · exact absurd hP hz
noncomputable def C_X1_weighLevels : List (Nat × dc_H) := [(231, H_J9_min_7cf53), (10, H_X1_putInOrder)]
theorem CO_X1_weighLevels {u : Nat} : dc_CO u C_X1_weighLevels := dc_CO_cons H_J9_min_7cf53_ok (dc_CO_cons H_X1_putInOrder_ok (dc_CO_nil))
def S_X1_weighLevels : List (Nat × List Nat) := [(7, [0, 1, 3]), (52, [0, 1, 3, 4]), (131, [0, 1, 3])]
noncomputable def d_X1_weighLevels_b131 (x0 : Nat) (x1 : Int64) (x3 : Int32) (m : dc_M) : Option ((Int32 × dc_M) ⊕ dc_M) :=
  ((d_X1_putInOrder x0 x3 m).bind (fun q1 => some (Sum.inl ((x3 + (1 : Int32)), q1))))
set_option maxHeartbeats 8000000 in
theorem k_X1_weighLevels_b131 {u : Nat} {N : Nat} {Φ : (Option ((Int32 × dc_M) ⊕ dc_M)) → Option Value → dc_M → Prop} (x0 : Nat) (x1 : Int64) (x3 : Int32) (m : dc_M) (kR : ∀  (m : dc_M), Φ (some (Sum.inr (m))) (none) m) (k7 : ∀ (x3 : Int32) (m : dc_M) (lv : ab_L), ab_lk lv 0 = some (.ref x0) → ab_lk lv 1 = some (.long x1) → ab_lk lv 3 = some (.int x3) →  dc_pv u N ab_M_X1_weighLevels 7 lv [] m (Φ (some (Sum.inl (x3, m))))) {lv : ab_L} (f0 : ab_lk lv 0 = some (.ref x0)) (f1 : ab_lk lv 1 = some (.long x1)) (f3 : ab_lk lv 3 = some (.int x3)) : dc_pv u N ab_M_X1_weighLevels 131 lv [] m (Φ (d_X1_weighLevels_b131 x0 x1 x3 m)) := by
  refine dc_pv.mono (dc_ok (C := C_X1_weighLevels) (S := S_X1_weighLevels) CO_X1_weighLevels 400 131 [(0, .ref x0), (1, .long x1), (3, .int x3)] lv [] m (dc_sub_cons f0 (dc_sub_cons f1 (dc_sub_cons f3 (dc_sub_nil)))) ?_) (Nat.le_succ N)
  unfold d_X1_weighLevels_b131
  refine dg_s (pc' := 132) [.ref x0] rfl (fun _ => rfl) rfl ?_
  refine dg_s (pc' := 133) [.int x3, .ref x0] rfl (fun _ => rfl) rfl ?_
  refine dw_b (fun t => Φ t) (pc' := 136) (fun q1 => []) (fun q1 => q1) rfl (fun _ => rfl) (fun q1 => ?_)
  refine dw_g rfl ?_
  refine dg_L (pc' := 139) [(3, .int (x3 + (1 : Int32))), (0, .ref x0), (1, .long x1)] [] rfl (fun _ => rfl) rfl ?_
  refine dw_s (pc' := 7) [] rfl (fun _ => rfl) ?_
  exact dw_j rfl (fun lv1 hv => k7 (x3 + (1 : Int32)) q1 lv1 (hv.1 _ rfl) (hv.2.1 _ rfl) (hv.2.2.1 _ rfl))
noncomputable def d_X1_weighLevels_l52b (x0 : Nat) (x1 : Int64) (x3 : Int32) (x4 : Int32) (m : dc_M) : Option ((Int32 × dc_M) ⊕ ((Int32 × dc_M) ⊕ dc_M)) :=
  (if (Int32.toInt (m.1 x0 1)) ≤ (Int32.toInt x4) then ((d_X1_weighLevels_b131 x0 x1 x3 m).map (fun z => Sum.inr (z))) else (if (Int32.toInt (lg_cmp (((((m.2.1 (x0 + 4) (Int32.toNatClampNeg x4))).toUInt64 >>> ((Int32.toInt64 x3).toUInt64 &&& Int64.toUInt64 63)).toInt64) &&& (1 : Int64)) (0 : Int64))) = 0 then some (Sum.inl ((x4 + (1 : Int32)), m)) else some (Sum.inl ((x4 + (1 : Int32)), (dc_wl (dc_wi (dc_wi m (x0 + 5) (Int32.toNatClampNeg x3) ((m.1 (x0 + 5) (Int32.toNatClampNeg x3)) + (1 : Int32))) (x0 + 6) (Int32.toNatClampNeg x3) (d_J9_min_7cf53 ((dc_wi m (x0 + 5) (Int32.toNatClampNeg x3) ((m.1 (x0 + 5) (Int32.toNatClampNeg x3)) + (1 : Int32))).1 (x0 + 6) (Int32.toNatClampNeg x3)) ((dc_wi m (x0 + 5) (Int32.toNatClampNeg x3) ((m.1 (x0 + 5) (Int32.toNatClampNeg x3)) + (1 : Int32))).1 (x0 + 3) (Int32.toNatClampNeg x4)) (dc_wi m (x0 + 5) (Int32.toNatClampNeg x3) ((m.1 (x0 + 5) (Int32.toNatClampNeg x3)) + (1 : Int32))))) (x0 + 7) (Int32.toNatClampNeg x3) (((dc_wi (dc_wi m (x0 + 5) (Int32.toNatClampNeg x3) ((m.1 (x0 + 5) (Int32.toNatClampNeg x3)) + (1 : Int32))) (x0 + 6) (Int32.toNatClampNeg x3) (d_J9_min_7cf53 ((dc_wi m (x0 + 5) (Int32.toNatClampNeg x3) ((m.1 (x0 + 5) (Int32.toNatClampNeg x3)) + (1 : Int32))).1 (x0 + 6) (Int32.toNatClampNeg x3)) ((dc_wi m (x0 + 5) (Int32.toNatClampNeg x3) ((m.1 (x0 + 5) (Int32.toNatClampNeg x3)) + (1 : Int32))).1 (x0 + 3) (Int32.toNatClampNeg x4)) (dc_wi m (x0 + 5) (Int32.toNatClampNeg x3) ((m.1 (x0 + 5) (Int32.toNatClampNeg x3)) + (1 : Int32))))).2.1 (x0 + 7) (Int32.toNatClampNeg x3)) ||| ((dc_wi (dc_wi m (x0 + 5) (Int32.toNatClampNeg x3) ((m.1 (x0 + 5) (Int32.toNatClampNeg x3)) + (1 : Int32))) (x0 + 6) (Int32.toNatClampNeg x3) (d_J9_min_7cf53 ((dc_wi m (x0 + 5) (Int32.toNatClampNeg x3) ((m.1 (x0 + 5) (Int32.toNatClampNeg x3)) + (1 : Int32))).1 (x0 + 6) (Int32.toNatClampNeg x3)) ((dc_wi m (x0 + 5) (Int32.toNatClampNeg x3) ((m.1 (x0 + 5) (Int32.toNatClampNeg x3)) + (1 : Int32))).1 (x0 + 3) (Int32.toNatClampNeg x4)) (dc_wi m (x0 + 5) (Int32.toNatClampNeg x3) ((m.1 (x0 + 5) (Int32.toNatClampNeg x3)) + (1 : Int32))))).2.1 (x0 + 4) (Int32.toNatClampNeg x4))))))))
noncomputable def d_X1_weighLevels_l52s (x0 : Nat) (x1 : Int64) (x3 : Int32) : (Int32 × dc_M) → Option ((Int32 × dc_M) ⊕ ((Int32 × dc_M) ⊕ dc_M)) := fun s => d_X1_weighLevels_l52b x0 x1 x3 s.1 s.2
noncomputable def d_X1_weighLevels_l52 (x0 : Nat) (x1 : Int64) (x3 : Int32) (x4 : Int32) (m : dc_M) : Option ((Int32 × dc_M) ⊕ dc_M) := dc_lp (d_X1_weighLevels_l52s x0 x1 x3) (x4, m)
set_option maxHeartbeats 8000000 in
theorem k_X1_weighLevels_l52 {u : Nat} {Φ : (Option ((Int32 × dc_M) ⊕ dc_M)) → Option Value → dc_M → Prop} (x0 : Nat) (x1 : Int64) (x3 : Int32) (kR : ∀  (m : dc_M), Φ (some (Sum.inr (m))) (none) m) : ∀ (N : Nat), (∀ (x3 : Int32) (m : dc_M) (lv : ab_L), ab_lk lv 0 = some (.ref x0) → ab_lk lv 1 = some (.long x1) → ab_lk lv 3 = some (.int x3) →  dc_pv u N ab_M_X1_weighLevels 7 lv [] m (Φ (some (Sum.inl (x3, m))))) → ∀ (x4 : Int32) (m : dc_M) (lv : ab_L), ab_lk lv 0 = some (.ref x0) → ab_lk lv 1 = some (.long x1) → ab_lk lv 3 = some (.int x3) → ab_lk lv 4 = some (.int x4) → dc_pv u N ab_M_X1_weighLevels 52 lv [] m (Φ (d_X1_weighLevels_l52 x0 x1 x3 x4 m)) := by
  intro N
  induction N with
  | zero => intros; exact dc_pv_zero
  | succ N ih =>
    intro k7 x4 m lv f0 f1 f3 f4
    have k7 := fun a0 a1 a2 a3 a4 a5 => (k7 a0 a1 a2 a3 a4 a5).mono (Nat.le_succ N)
    have ih := ih k7
    refine dc_ok (C := C_X1_weighLevels) (S := S_X1_weighLevels) CO_X1_weighLevels 400 52 [(0, .ref x0), (1, .long x1), (3, .int x3), (4, .int x4)] lv [] m (dc_sub_cons f0 (dc_sub_cons f1 (dc_sub_cons f3 (dc_sub_cons f4 (dc_sub_nil))))) ?_
    unfold d_X1_weighLevels_l52
    rw [dc_lp_eq]
    show (fun t x => dc_lf u N ab_M_X1_weighLevels (Φ (Option.bind t (dc_bk (d_X1_weighLevels_l52s x0 x1 x3)))) x) (d_X1_weighLevels_l52b x0 x1 x3 x4 m) _
    dsimp only
    unfold d_X1_weighLevels_l52b
    refine dg_s (pc' := 54) [.int x4] rfl (fun _ => rfl) rfl ?_
    refine dg_s (pc' := 55) [.ref x0, .int x4] rfl (fun _ => rfl) rfl ?_
    refine dg_s (pc' := 58) [.int (m.1 x0 1), .int x4] rfl (fun _ => rfl) rfl ?_
    refine dw_if (fun t => Φ (Option.bind t (dc_bk (d_X1_weighLevels_l52s x0 x1 x3)))) ((Int32.toInt (m.1 x0 1)) ≤ (Int32.toInt x4)) [] 131 61 rfl (fun _ => rfl) (fun c0 => ?_) (fun c0 => ?_)
    · exact dw_j rfl (fun lv1 hv => k_X1_weighLevels_b131 (Φ := (fun t => Φ (Option.bind (t.map (fun z => Sum.inr (z))) (dc_bk (d_X1_weighLevels_l52s x0 x1 x3))))) x0 x1 x3 m (fun _b => kR _b) k7 (hv.1 _ rfl) (hv.2.1 _ rfl) (hv.2.2.1 _ rfl))
    · refine dw_g rfl ?_
      refine dg_s (pc' := 62) [.ref x0] rfl (fun _ => rfl) rfl ?_
      refine dg_s (pc' := 65) [.ref (x0 + 4)] rfl (fun _ => rfl) rfl ?_
      refine dg_s (pc' := 67) [.int x4, .ref (x0 + 4)] rfl (fun _ => rfl) rfl ?_
      refine dg_s (pc' := 68) [.long (m.2.1 (x0 + 4) (Int32.toNatClampNeg x4))] rfl (fun _ => rfl) rfl ?_
      refine dg_s (pc' := 69) [.int x3, .long (m.2.1 (x0 + 4) (Int32.toNatClampNeg x4))] rfl (fun _ => rfl) rfl ?_
      refine dg_s (pc' := 70) [.long ((((m.2.1 (x0 + 4) (Int32.toNatClampNeg x4))).toUInt64 >>> ((Int32.toInt64 x3).toUInt64 &&& Int64.toUInt64 63)).toInt64)] rfl (fun _ => rfl) rfl ?_
      refine dg_s (pc' := 71) [.long (1 : Int64), .long ((((m.2.1 (x0 + 4) (Int32.toNatClampNeg x4))).toUInt64 >>> ((Int32.toInt64 x3).toUInt64 &&& Int64.toUInt64 63)).toInt64)] rfl (fun _ => rfl) rfl ?_
      refine dg_s (pc' := 72) [.long (((((m.2.1 (x0 + 4) (Int32.toNatClampNeg x4))).toUInt64 >>> ((Int32.toInt64 x3).toUInt64 &&& Int64.toUInt64 63)).toInt64) &&& (1 : Int64))] rfl (fun _ => rfl) rfl ?_
      refine dg_s (pc' := 73) [.long (0 : Int64), .long (((((m.2.1 (x0 + 4) (Int32.toNatClampNeg x4))).toUInt64 >>> ((Int32.toInt64 x3).toUInt64 &&& Int64.toUInt64 63)).toInt64) &&& (1 : Int64))] rfl (fun _ => rfl) rfl ?_
      refine dg_s (pc' := 74) [.int (lg_cmp (((((m.2.1 (x0 + 4) (Int32.toNatClampNeg x4))).toUInt64 >>> ((Int32.toInt64 x3).toUInt64 &&& Int64.toUInt64 63)).toInt64) &&& (1 : Int64)) (0 : Int64))] rfl (fun _ => rfl) rfl ?_
      refine dw_if (fun t => Φ (Option.bind t (dc_bk (d_X1_weighLevels_l52s x0 x1 x3)))) ((Int32.toInt (lg_cmp (((((m.2.1 (x0 + 4) (Int32.toNatClampNeg x4))).toUInt64 >>> ((Int32.toInt64 x3).toUInt64 &&& Int64.toUInt64 63)).toInt64) &&& (1 : Int64)) (0 : Int64))) = 0) [] 125 77 rfl (fun _ => rfl) (fun c1 => ?_) (fun c1 => ?_)
      · refine dw_g rfl ?_
        refine dg_L (pc' := 128) [(4, .int (x4 + (1 : Int32))), (0, .ref x0), (1, .long x1), (3, .int x3)] [] rfl (fun _ => rfl) rfl ?_
        refine dw_s (pc' := 52) [] rfl (fun _ => rfl) ?_
        exact dw_j rfl (fun lv1 hv => ih (x4 + (1 : Int32)) m lv1 (hv.1 _ rfl) (hv.2.1 _ rfl) (hv.2.2.1 _ rfl) (hv.2.2.2.1 _ rfl))
      · refine dw_g rfl ?_
        refine dg_s (pc' := 78) [.ref x0] rfl (fun _ => rfl) rfl ?_
        refine dg_s (pc' := 81) [.ref (x0 + 5)] rfl (fun _ => rfl) rfl ?_
        refine dg_s (pc' := 82) [.int x3, .ref (x0 + 5)] rfl (fun _ => rfl) rfl ?_
        refine dg_s (pc' := 83) [.int x3, .ref (x0 + 5), .int x3, .ref (x0 + 5)] rfl (fun _ => rfl) rfl ?_
        refine dg_s (pc' := 84) [.int (m.1 (x0 + 5) (Int32.toNatClampNeg x3)), .int x3, .ref (x0 + 5)] rfl (fun _ => rfl) rfl ?_
        refine dg_s (pc' := 85) [.int (1 : Int32), .int (m.1 (x0 + 5) (Int32.toNatClampNeg x3)), .int x3, .ref (x0 + 5)] rfl (fun _ => rfl) rfl ?_
        refine dg_s (pc' := 86) [.int ((m.1 (x0 + 5) (Int32.toNatClampNeg x3)) + (1 : Int32)), .int x3, .ref (x0 + 5)] rfl (fun _ => rfl) rfl ?_
        refine dg_m (pc' := 87) (dc_wi m (x0 + 5) (Int32.toNatClampNeg x3) ((m.1 (x0 + 5) (Int32.toNatClampNeg x3)) + (1 : Int32))) [] rfl (fun _ => rfl) rfl ?_
        refine dg_s (pc' := 88) [.ref x0] rfl (fun _ => rfl) rfl ?_
        refine dg_s (pc' := 91) [.ref (x0 + 6)] rfl (fun _ => rfl) rfl ?_
        refine dg_s (pc' := 92) [.int x3, .ref (x0 + 6)] rfl (fun _ => rfl) rfl ?_
        refine dg_s (pc' := 93) [.ref x0, .int x3, .ref (x0 + 6)] rfl (fun _ => rfl) rfl ?_
        refine dg_s (pc' := 96) [.ref (x0 + 6), .int x3, .ref (x0 + 6)] rfl (fun _ => rfl) rfl ?_
        refine dg_s (pc' := 97) [.int x3, .ref (x0 + 6), .int x3, .ref (x0 + 6)] rfl (fun _ => rfl) rfl ?_
        refine dg_s (pc' := 98) [.int ((dc_wi m (x0 + 5) (Int32.toNatClampNeg x3) ((m.1 (x0 + 5) (Int32.toNatClampNeg x3)) + (1 : Int32))).1 (x0 + 6) (Int32.toNatClampNeg x3)), .int x3, .ref (x0 + 6)] rfl (fun _ => rfl) rfl ?_
        refine dg_s (pc' := 99) [.ref x0, .int ((dc_wi m (x0 + 5) (Int32.toNatClampNeg x3) ((m.1 (x0 + 5) (Int32.toNatClampNeg x3)) + (1 : Int32))).1 (x0 + 6) (Int32.toNatClampNeg x3)), .int x3, .ref (x0 + 6)] rfl (fun _ => rfl) rfl ?_
        refine dg_s (pc' := 102) [.ref (x0 + 3), .int ((dc_wi m (x0 + 5) (Int32.toNatClampNeg x3) ((m.1 (x0 + 5) (Int32.toNatClampNeg x3)) + (1 : Int32))).1 (x0 + 6) (Int32.toNatClampNeg x3)), .int x3, .ref (x0 + 6)] rfl (fun _ => rfl) rfl ?_
        refine dg_s (pc' := 104) [.int x4, .ref (x0 + 3), .int ((dc_wi m (x0 + 5) (Int32.toNatClampNeg x3) ((m.1 (x0 + 5) (Int32.toNatClampNeg x3)) + (1 : Int32))).1 (x0 + 6) (Int32.toNatClampNeg x3)), .int x3, .ref (x0 + 6)] rfl (fun _ => rfl) rfl ?_
        refine dg_s (pc' := 105) [.int ((dc_wi m (x0 + 5) (Int32.toNatClampNeg x3) ((m.1 (x0 + 5) (Int32.toNatClampNeg x3)) + (1 : Int32))).1 (x0 + 3) (Int32.toNatClampNeg x4)), .int ((dc_wi m (x0 + 5) (Int32.toNatClampNeg x3) ((m.1 (x0 + 5) (Int32.toNatClampNeg x3)) + (1 : Int32))).1 (x0 + 6) (Int32.toNatClampNeg x3)), .int x3, .ref (x0 + 6)] rfl (fun _ => rfl) rfl ?_
        refine dg_s (pc' := 108) [.int (d_J9_min_7cf53 ((dc_wi m (x0 + 5) (Int32.toNatClampNeg x3) ((m.1 (x0 + 5) (Int32.toNatClampNeg x3)) + (1 : Int32))).1 (x0 + 6) (Int32.toNatClampNeg x3)) ((dc_wi m (x0 + 5) (Int32.toNatClampNeg x3) ((m.1 (x0 + 5) (Int32.toNatClampNeg x3)) + (1 : Int32))).1 (x0 + 3) (Int32.toNatClampNeg x4)) (dc_wi m (x0 + 5) (Int32.toNatClampNeg x3) ((m.1 (x0 + 5) (Int32.toNatClampNeg x3)) + (1 : Int32)))), .int x3, .ref (x0 + 6)] rfl (fun _ => rfl) rfl ?_
        refine dg_m (pc' := 109) (dc_wi (dc_wi m (x0 + 5) (Int32.toNatClampNeg x3) ((m.1 (x0 + 5) (Int32.toNatClampNeg x3)) + (1 : Int32))) (x0 + 6) (Int32.toNatClampNeg x3) (d_J9_min_7cf53 ((dc_wi m (x0 + 5) (Int32.toNatClampNeg x3) ((m.1 (x0 + 5) (Int32.toNatClampNeg x3)) + (1 : Int32))).1 (x0 + 6) (Int32.toNatClampNeg x3)) ((dc_wi m (x0 + 5) (Int32.toNatClampNeg x3) ((m.1 (x0 + 5) (Int32.toNatClampNeg x3)) + (1 : Int32))).1 (x0 + 3) (Int32.toNatClampNeg x4)) (dc_wi m (x0 + 5) (Int32.toNatClampNeg x3) ((m.1 (x0 + 5) (Int32.toNatClampNeg x3)) + (1 : Int32))))) [] rfl (fun _ => rfl) rfl ?_
        refine dg_s (pc' := 110) [.ref x0] rfl (fun _ => rfl) rfl ?_
        refine dg_s (pc' := 113) [.ref (x0 + 7)] rfl (fun _ => rfl) rfl ?_
        refine dg_s (pc' := 114) [.int x3, .ref (x0 + 7)] rfl (fun _ => rfl) rfl ?_
        refine dg_s (pc' := 115) [.int x3, .ref (x0 + 7), .int x3, .ref (x0 + 7)] rfl (fun _ => rfl) rfl ?_
        refine dg_s (pc' := 116) [.long ((dc_wi (dc_wi m (x0 + 5) (Int32.toNatClampNeg x3) ((m.1 (x0 + 5) (Int32.toNatClampNeg x3)) + (1 : Int32))) (x0 + 6) (Int32.toNatClampNeg x3) (d_J9_min_7cf53 ((dc_wi m (x0 + 5) (Int32.toNatClampNeg x3) ((m.1 (x0 + 5) (Int32.toNatClampNeg x3)) + (1 : Int32))).1 (x0 + 6) (Int32.toNatClampNeg x3)) ((dc_wi m (x0 + 5) (Int32.toNatClampNeg x3) ((m.1 (x0 + 5) (Int32.toNatClampNeg x3)) + (1 : Int32))).1 (x0 + 3) (Int32.toNatClampNeg x4)) (dc_wi m (x0 + 5) (Int32.toNatClampNeg x3) ((m.1 (x0 + 5) (Int32.toNatClampNeg x3)) + (1 : Int32))))).2.1 (x0 + 7) (Int32.toNatClampNeg x3)), .int x3, .ref (x0 + 7)] rfl (fun _ => rfl) rfl ?_
        refine dg_s (pc' := 117) [.ref x0, .long ((dc_wi (dc_wi m (x0 + 5) (Int32.toNatClampNeg x3) ((m.1 (x0 + 5) (Int32.toNatClampNeg x3)) + (1 : Int32))) (x0 + 6) (Int32.toNatClampNeg x3) (d_J9_min_7cf53 ((dc_wi m (x0 + 5) (Int32.toNatClampNeg x3) ((m.1 (x0 + 5) (Int32.toNatClampNeg x3)) + (1 : Int32))).1 (x0 + 6) (Int32.toNatClampNeg x3)) ((dc_wi m (x0 + 5) (Int32.toNatClampNeg x3) ((m.1 (x0 + 5) (Int32.toNatClampNeg x3)) + (1 : Int32))).1 (x0 + 3) (Int32.toNatClampNeg x4)) (dc_wi m (x0 + 5) (Int32.toNatClampNeg x3) ((m.1 (x0 + 5) (Int32.toNatClampNeg x3)) + (1 : Int32))))).2.1 (x0 + 7) (Int32.toNatClampNeg x3)), .int x3, .ref (x0 + 7)] rfl (fun _ => rfl) rfl ?_
        refine dg_s (pc' := 120) [.ref (x0 + 4), .long ((dc_wi (dc_wi m (x0 + 5) (Int32.toNatClampNeg x3) ((m.1 (x0 + 5) (Int32.toNatClampNeg x3)) + (1 : Int32))) (x0 + 6) (Int32.toNatClampNeg x3) (d_J9_min_7cf53 ((dc_wi m (x0 + 5) (Int32.toNatClampNeg x3) ((m.1 (x0 + 5) (Int32.toNatClampNeg x3)) + (1 : Int32))).1 (x0 + 6) (Int32.toNatClampNeg x3)) ((dc_wi m (x0 + 5) (Int32.toNatClampNeg x3) ((m.1 (x0 + 5) (Int32.toNatClampNeg x3)) + (1 : Int32))).1 (x0 + 3) (Int32.toNatClampNeg x4)) (dc_wi m (x0 + 5) (Int32.toNatClampNeg x3) ((m.1 (x0 + 5) (Int32.toNatClampNeg x3)) + (1 : Int32))))).2.1 (x0 + 7) (Int32.toNatClampNeg x3)), .int x3, .ref (x0 + 7)] rfl (fun _ => rfl) rfl ?_
        refine dg_s (pc' := 122) [.int x4, .ref (x0 + 4), .long ((dc_wi (dc_wi m (x0 + 5) (Int32.toNatClampNeg x3) ((m.1 (x0 + 5) (Int32.toNatClampNeg x3)) + (1 : Int32))) (x0 + 6) (Int32.toNatClampNeg x3) (d_J9_min_7cf53 ((dc_wi m (x0 + 5) (Int32.toNatClampNeg x3) ((m.1 (x0 + 5) (Int32.toNatClampNeg x3)) + (1 : Int32))).1 (x0 + 6) (Int32.toNatClampNeg x3)) ((dc_wi m (x0 + 5) (Int32.toNatClampNeg x3) ((m.1 (x0 + 5) (Int32.toNatClampNeg x3)) + (1 : Int32))).1 (x0 + 3) (Int32.toNatClampNeg x4)) (dc_wi m (x0 + 5) (Int32.toNatClampNeg x3) ((m.1 (x0 + 5) (Int32.toNatClampNeg x3)) + (1 : Int32))))).2.1 (x0 + 7) (Int32.toNatClampNeg x3)), .int x3, .ref (x0 + 7)] rfl (fun _ => rfl) rfl ?_
        refine dg_s (pc' := 123) [.long ((dc_wi (dc_wi m (x0 + 5) (Int32.toNatClampNeg x3) ((m.1 (x0 + 5) (Int32.toNatClampNeg x3)) + (1 : Int32))) (x0 + 6) (Int32.toNatClampNeg x3) (d_J9_min_7cf53 ((dc_wi m (x0 + 5) (Int32.toNatClampNeg x3) ((m.1 (x0 + 5) (Int32.toNatClampNeg x3)) + (1 : Int32))).1 (x0 + 6) (Int32.toNatClampNeg x3)) ((dc_wi m (x0 + 5) (Int32.toNatClampNeg x3) ((m.1 (x0 + 5) (Int32.toNatClampNeg x3)) + (1 : Int32))).1 (x0 + 3) (Int32.toNatClampNeg x4)) (dc_wi m (x0 + 5) (Int32.toNatClampNeg x3) ((m.1 (x0 + 5) (Int32.toNatClampNeg x3)) + (1 : Int32))))).2.1 (x0 + 4) (Int32.toNatClampNeg x4)), .long ((dc_wi (dc_wi m (x0 + 5) (Int32.toNatClampNeg x3) ((m.1 (x0 + 5) (Int32.toNatClampNeg x3)) + (1 : Int32))) (x0 + 6) (Int32.toNatClampNeg x3) (d_J9_min_7cf53 ((dc_wi m (x0 + 5) (Int32.toNatClampNeg x3) ((m.1 (x0 + 5) (Int32.toNatClampNeg x3)) + (1 : Int32))).1 (x0 + 6) (Int32.toNatClampNeg x3)) ((dc_wi m (x0 + 5) (Int32.toNatClampNeg x3) ((m.1 (x0 + 5) (Int32.toNatClampNeg x3)) + (1 : Int32))).1 (x0 + 3) (Int32.toNatClampNeg x4)) (dc_wi m (x0 + 5) (Int32.toNatClampNeg x3) ((m.1 (x0 + 5) (Int32.toNatClampNeg x3)) + (1 : Int32))))).2.1 (x0 + 7) (Int32.toNatClampNeg x3)), .int x3, .ref (x0 + 7)] rfl (fun _ => rfl) rfl ?_
        refine dg_s (pc' := 124) [.long (((dc_wi (dc_wi m (x0 + 5) (Int32.toNatClampNeg x3) ((m.1 (x0 + 5) (Int32.toNatClampNeg x3)) + (1 : Int32))) (x0 + 6) (Int32.toNatClampNeg x3) (d_J9_min_7cf53 ((dc_wi m (x0 + 5) (Int32.toNatClampNeg x3) ((m.1 (x0 + 5) (Int32.toNatClampNeg x3)) + (1 : Int32))).1 (x0 + 6) (Int32.toNatClampNeg x3)) ((dc_wi m (x0 + 5) (Int32.toNatClampNeg x3) ((m.1 (x0 + 5) (Int32.toNatClampNeg x3)) + (1 : Int32))).1 (x0 + 3) (Int32.toNatClampNeg x4)) (dc_wi m (x0 + 5) (Int32.toNatClampNeg x3) ((m.1 (x0 + 5) (Int32.toNatClampNeg x3)) + (1 : Int32))))).2.1 (x0 + 7) (Int32.toNatClampNeg x3)) ||| ((dc_wi (dc_wi m (x0 + 5) (Int32.toNatClampNeg x3) ((m.1 (x0 + 5) (Int32.toNatClampNeg x3)) + (1 : Int32))) (x0 + 6) (Int32.toNatClampNeg x3) (d_J9_min_7cf53 ((dc_wi m (x0 + 5) (Int32.toNatClampNeg x3) ((m.1 (x0 + 5) (Int32.toNatClampNeg x3)) + (1 : Int32))).1 (x0 + 6) (Int32.toNatClampNeg x3)) ((dc_wi m (x0 + 5) (Int32.toNatClampNeg x3) ((m.1 (x0 + 5) (Int32.toNatClampNeg x3)) + (1 : Int32))).1 (x0 + 3) (Int32.toNatClampNeg x4)) (dc_wi m (x0 + 5) (Int32.toNatClampNeg x3) ((m.1 (x0 + 5) (Int32.toNatClampNeg x3)) + (1 : Int32))))).2.1 (x0 + 4) (Int32.toNatClampNeg x4))), .int x3, .ref (x0 + 7)] rfl (fun _ => rfl) rfl ?_
        refine dg_m (pc' := 125) (dc_wl (dc_wi (dc_wi m (x0 + 5) (Int32.toNatClampNeg x3) ((m.1 (x0 + 5) (Int32.toNatClampNeg x3)) + (1 : Int32))) (x0 + 6) (Int32.toNatClampNeg x3) (d_J9_min_7cf53 ((dc_wi m (x0 + 5) (Int32.toNatClampNeg x3) ((m.1 (x0 + 5) (Int32.toNatClampNeg x3)) + (1 : Int32))).1 (x0 + 6) (Int32.toNatClampNeg x3)) ((dc_wi m (x0 + 5) (Int32.toNatClampNeg x3) ((m.1 (x0 + 5) (Int32.toNatClampNeg x3)) + (1 : Int32))).1 (x0 + 3) (Int32.toNatClampNeg x4)) (dc_wi m (x0 + 5) (Int32.toNatClampNeg x3) ((m.1 (x0 + 5) (Int32.toNatClampNeg x3)) + (1 : Int32))))) (x0 + 7) (Int32.toNatClampNeg x3) (((dc_wi (dc_wi m (x0 + 5) (Int32.toNatClampNeg x3) ((m.1 (x0 + 5) (Int32.toNatClampNeg x3)) + (1 : Int32))) (x0 + 6) (Int32.toNatClampNeg x3) (d_J9_min_7cf53 ((dc_wi m (x0 + 5) (Int32.toNatClampNeg x3) ((m.1 (x0 + 5) (Int32.toNatClampNeg x3)) + (1 : Int32))).1 (x0 + 6) (Int32.toNatClampNeg x3)) ((dc_wi m (x0 + 5) (Int32.toNatClampNeg x3) ((m.1 (x0 + 5) (Int32.toNatClampNeg x3)) + (1 : Int32))).1 (x0 + 3) (Int32.toNatClampNeg x4)) (dc_wi m (x0 + 5) (Int32.toNatClampNeg x3) ((m.1 (x0 + 5) (Int32.toNatClampNeg x3)) + (1 : Int32))))).2.1 (x0 + 7) (Int32.toNatClampNeg x3)) ||| ((dc_wi (dc_wi m (x0 + 5) (Int32.toNatClampNeg x3) ((m.1 (x0 + 5) (Int32.toNatClampNeg x3)) + (1 : Int32))) (x0 + 6) (Int32.toNatClampNeg x3) (d_J9_min_7cf53 ((dc_wi m (x0 + 5) (Int32.toNatClampNeg x3) ((m.1 (x0 + 5) (Int32.toNatClampNeg x3)) + (1 : Int32))).1 (x0 + 6) (Int32.toNatClampNeg x3)) ((dc_wi m (x0 + 5) (Int32.toNatClampNeg x3) ((m.1 (x0 + 5) (Int32.toNatClampNeg x3)) + (1 : Int32))).1 (x0 + 3) (Int32.toNatClampNeg x4)) (dc_wi m (x0 + 5) (Int32.toNatClampNeg x3) ((m.1 (x0 + 5) (Int32.toNatClampNeg x3)) + (1 : Int32))))).2.1 (x0 + 4) (Int32.toNatClampNeg x4)))) [] rfl (fun _ => rfl) rfl ?_
        refine dg_L (pc' := 128) [(4, .int (x4 + (1 : Int32))), (0, .ref x0), (1, .long x1), (3, .int x3)] [] rfl (fun _ => rfl) rfl ?_
        refine dw_s (pc' := 52) [] rfl (fun _ => rfl) ?_
        exact dw_j rfl (fun lv1 hv => ih (x4 + (1 : Int32)) (dc_wl (dc_wi (dc_wi m (x0 + 5) (Int32.toNatClampNeg x3) ((m.1 (x0 + 5) (Int32.toNatClampNeg x3)) + (1 : Int32))) (x0 + 6) (Int32.toNatClampNeg x3) (d_J9_min_7cf53 ((dc_wi m (x0 + 5) (Int32.toNatClampNeg x3) ((m.1 (x0 + 5) (Int32.toNatClampNeg x3)) + (1 : Int32))).1 (x0 + 6) (Int32.toNatClampNeg x3)) ((dc_wi m (x0 + 5) (Int32.toNatClampNeg x3) ((m.1 (x0 + 5) (Int32.toNatClampNeg x3)) + (1 : Int32))).1 (x0 + 3) (Int32.toNatClampNeg x4)) (dc_wi m (x0 + 5) (Int32.toNatClampNeg x3) ((m.1 (x0 + 5) (Int32.toNatClampNeg x3)) + (1 : Int32))))) (x0 + 7) (Int32.toNatClampNeg x3) (((dc_wi (dc_wi m (x0 + 5) (Int32.toNatClampNeg x3) ((m.1 (x0 + 5) (Int32.toNatClampNeg x3)) + (1 : Int32))) (x0 + 6) (Int32.toNatClampNeg x3) (d_J9_min_7cf53 ((dc_wi m (x0 + 5) (Int32.toNatClampNeg x3) ((m.1 (x0 + 5) (Int32.toNatClampNeg x3)) + (1 : Int32))).1 (x0 + 6) (Int32.toNatClampNeg x3)) ((dc_wi m (x0 + 5) (Int32.toNatClampNeg x3) ((m.1 (x0 + 5) (Int32.toNatClampNeg x3)) + (1 : Int32))).1 (x0 + 3) (Int32.toNatClampNeg x4)) (dc_wi m (x0 + 5) (Int32.toNatClampNeg x3) ((m.1 (x0 + 5) (Int32.toNatClampNeg x3)) + (1 : Int32))))).2.1 (x0 + 7) (Int32.toNatClampNeg x3)) ||| ((dc_wi (dc_wi m (x0 + 5) (Int32.toNatClampNeg x3) ((m.1 (x0 + 5) (Int32.toNatClampNeg x3)) + (1 : Int32))) (x0 + 6) (Int32.toNatClampNeg x3) (d_J9_min_7cf53 ((dc_wi m (x0 + 5) (Int32.toNatClampNeg x3) ((m.1 (x0 + 5) (Int32.toNatClampNeg x3)) + (1 : Int32))).1 (x0 + 6) (Int32.toNatClampNeg x3)) ((dc_wi m (x0 + 5) (Int32.toNatClampNeg x3) ((m.1 (x0 + 5) (Int32.toNatClampNeg x3)) + (1 : Int32))).1 (x0 + 3) (Int32.toNatClampNeg x4)) (dc_wi m (x0 + 5) (Int32.toNatClampNeg x3) ((m.1 (x0 + 5) (Int32.toNatClampNeg x3)) + (1 : Int32))))).2.1 (x0 + 4) (Int32.toNatClampNeg x4)))) lv1 (hv.1 _ rfl) (hv.2.1 _ rfl) (hv.2.2.1 _ rfl) (hv.2.2.2.1 _ rfl))
noncomputable def d_X1_weighLevels_l7b (x0 : Nat) (x1 : Int64) (x3 : Int32) (m : dc_M) : Option ((Int32 × dc_M) ⊕ dc_M) :=
  (if 64 ≤ (Int32.toInt x3) then some (Sum.inr (m)) else (if ¬ (Int32.toInt (lg_cmp ((((x1).toUInt64 >>> ((Int32.toInt64 x3).toUInt64 &&& Int64.toUInt64 63)).toInt64) &&& (1 : Int64)) (0 : Int64))) = 0 then (d_X1_weighLevels_l52 x0 x1 x3 (0 : Int32) (dc_wl (dc_wi (dc_wi m (x0 + 5) (Int32.toNatClampNeg x3) (0 : Int32)) (x0 + 6) (Int32.toNatClampNeg x3) (8448 : Int32)) (x0 + 7) (Int32.toNatClampNeg x3) (0 : Int64))) else some (Sum.inl ((x3 + (1 : Int32)), (dc_wl (dc_wi (dc_wi m (x0 + 5) (Int32.toNatClampNeg x3) (0 : Int32)) (x0 + 6) (Int32.toNatClampNeg x3) (8448 : Int32)) (x0 + 7) (Int32.toNatClampNeg x3) (0 : Int64))))))
noncomputable def d_X1_weighLevels_l7s (x0 : Nat) (x1 : Int64) : (Int32 × dc_M) → Option ((Int32 × dc_M) ⊕ dc_M) := fun s => d_X1_weighLevels_l7b x0 x1 s.1 s.2
noncomputable def d_X1_weighLevels_l7 (x0 : Nat) (x1 : Int64) (x3 : Int32) (m : dc_M) : Option dc_M := dc_lp (d_X1_weighLevels_l7s x0 x1) (x3, m)
set_option maxHeartbeats 8000000 in
theorem k_X1_weighLevels_l7 {u : Nat} {Φ : (Option dc_M) → Option Value → dc_M → Prop} (x0 : Nat) (x1 : Int64) (kR : ∀  (m : dc_M), Φ (some (m)) (none) m) : ∀ (N : Nat), ∀ (x3 : Int32) (m : dc_M) (lv : ab_L), ab_lk lv 0 = some (.ref x0) → ab_lk lv 1 = some (.long x1) → ab_lk lv 3 = some (.int x3) → dc_pv u N ab_M_X1_weighLevels 7 lv [] m (Φ (d_X1_weighLevels_l7 x0 x1 x3 m)) := by
  intro N
  induction N with
  | zero => intros; exact dc_pv_zero
  | succ N ih =>
    intro x3 m lv f0 f1 f3
    refine dc_ok (C := C_X1_weighLevels) (S := S_X1_weighLevels) CO_X1_weighLevels 400 7 [(0, .ref x0), (1, .long x1), (3, .int x3)] lv [] m (dc_sub_cons f0 (dc_sub_cons f1 (dc_sub_cons f3 (dc_sub_nil)))) ?_
    unfold d_X1_weighLevels_l7
    rw [dc_lp_eq]
    show (fun t x => dc_lf u N ab_M_X1_weighLevels (Φ (Option.bind t (dc_bk (d_X1_weighLevels_l7s x0 x1)))) x) (d_X1_weighLevels_l7b x0 x1 x3 m) _
    dsimp only
    unfold d_X1_weighLevels_l7b
    refine dg_s (pc' := 8) [.int x3] rfl (fun _ => rfl) rfl ?_
    refine dg_s (pc' := 10) [.int (64 : Int32), .int x3] rfl (fun _ => rfl) rfl ?_
    refine dw_if (fun t => Φ (Option.bind t (dc_bk (d_X1_weighLevels_l7s x0 x1)))) (64 ≤ (Int32.toInt x3)) [] 142 13 rfl (fun _ => rfl) (fun c0 => ?_) (fun c0 => ?_)
    · refine dw_g rfl ?_
      exact dw_r (some (.inl (none, m))) rfl (fun _ => rfl) (kR _)
    · refine dw_g rfl ?_
      refine dg_s (pc' := 14) [.ref x0] rfl (fun _ => rfl) rfl ?_
      refine dg_s (pc' := 17) [.ref (x0 + 5)] rfl (fun _ => rfl) rfl ?_
      refine dg_s (pc' := 18) [.int x3, .ref (x0 + 5)] rfl (fun _ => rfl) rfl ?_
      refine dg_s (pc' := 19) [.int (0 : Int32), .int x3, .ref (x0 + 5)] rfl (fun _ => rfl) rfl ?_
      refine dg_m (pc' := 20) (dc_wi m (x0 + 5) (Int32.toNatClampNeg x3) (0 : Int32)) [] rfl (fun _ => rfl) rfl ?_
      refine dg_s (pc' := 21) [.ref x0] rfl (fun _ => rfl) rfl ?_
      refine dg_s (pc' := 24) [.ref (x0 + 6)] rfl (fun _ => rfl) rfl ?_
      refine dg_s (pc' := 25) [.int x3, .ref (x0 + 6)] rfl (fun _ => rfl) rfl ?_
      refine dg_s (pc' := 28) [.int (8448 : Int32), .int x3, .ref (x0 + 6)] rfl (fun _ => rfl) rfl ?_
      refine dg_m (pc' := 29) (dc_wi (dc_wi m (x0 + 5) (Int32.toNatClampNeg x3) (0 : Int32)) (x0 + 6) (Int32.toNatClampNeg x3) (8448 : Int32)) [] rfl (fun _ => rfl) rfl ?_
      refine dg_s (pc' := 30) [.ref x0] rfl (fun _ => rfl) rfl ?_
      refine dg_s (pc' := 33) [.ref (x0 + 7)] rfl (fun _ => rfl) rfl ?_
      refine dg_s (pc' := 34) [.int x3, .ref (x0 + 7)] rfl (fun _ => rfl) rfl ?_
      refine dg_s (pc' := 35) [.long (0 : Int64), .int x3, .ref (x0 + 7)] rfl (fun _ => rfl) rfl ?_
      refine dg_m (pc' := 36) (dc_wl (dc_wi (dc_wi m (x0 + 5) (Int32.toNatClampNeg x3) (0 : Int32)) (x0 + 6) (Int32.toNatClampNeg x3) (8448 : Int32)) (x0 + 7) (Int32.toNatClampNeg x3) (0 : Int64)) [] rfl (fun _ => rfl) rfl ?_
      refine dg_s (pc' := 37) [.long x1] rfl (fun _ => rfl) rfl ?_
      refine dg_s (pc' := 38) [.int x3, .long x1] rfl (fun _ => rfl) rfl ?_
      refine dg_s (pc' := 39) [.long (((x1).toUInt64 >>> ((Int32.toInt64 x3).toUInt64 &&& Int64.toUInt64 63)).toInt64)] rfl (fun _ => rfl) rfl ?_
      refine dg_s (pc' := 40) [.long (1 : Int64), .long (((x1).toUInt64 >>> ((Int32.toInt64 x3).toUInt64 &&& Int64.toUInt64 63)).toInt64)] rfl (fun _ => rfl) rfl ?_
      refine dg_s (pc' := 41) [.long ((((x1).toUInt64 >>> ((Int32.toInt64 x3).toUInt64 &&& Int64.toUInt64 63)).toInt64) &&& (1 : Int64))] rfl (fun _ => rfl) rfl ?_
      refine dg_s (pc' := 42) [.long (0 : Int64), .long ((((x1).toUInt64 >>> ((Int32.toInt64 x3).toUInt64 &&& Int64.toUInt64 63)).toInt64) &&& (1 : Int64))] rfl (fun _ => rfl) rfl ?_
      refine dg_s (pc' := 43) [.int (lg_cmp ((((x1).toUInt64 >>> ((Int32.toInt64 x3).toUInt64 &&& Int64.toUInt64 63)).toInt64) &&& (1 : Int64)) (0 : Int64))] rfl (fun _ => rfl) rfl ?_
      refine dw_if (fun t => Φ (Option.bind t (dc_bk (d_X1_weighLevels_l7s x0 x1)))) (¬ (Int32.toInt (lg_cmp ((((x1).toUInt64 >>> ((Int32.toInt64 x3).toUInt64 &&& Int64.toUInt64 63)).toInt64) &&& (1 : Int64)) (0 : Int64))) = 0) [] 49 46 rfl (fun _ => rfl) (fun c1 => ?_) (fun c1 => ?_)
      · refine dw_g rfl ?_
        refine dg_s (pc' := 50) [.int (0 : Int32)] rfl (fun _ => rfl) rfl ?_
        refine dw_L (pc' := 52) [(4, .int (0 : Int32)), (0, .ref x0), (1, .long x1), (3, .int x3)] [] rfl (fun _ => rfl) ?_
        exact dw_j rfl (fun lv1 hv => k_X1_weighLevels_l52 (Φ := (fun t => Φ (Option.bind t (dc_bk (d_X1_weighLevels_l7s x0 x1))))) x0 x1 x3 (fun _b => kR _b) N ih (0 : Int32) (dc_wl (dc_wi (dc_wi m (x0 + 5) (Int32.toNatClampNeg x3) (0 : Int32)) (x0 + 6) (Int32.toNatClampNeg x3) (8448 : Int32)) (x0 + 7) (Int32.toNatClampNeg x3) (0 : Int64)) lv1 (hv.1 _ rfl) (hv.2.1 _ rfl) (hv.2.2.1 _ rfl) (hv.2.2.2.1 _ rfl))
      · refine dw_g rfl ?_
        refine dg_s (pc' := 136) [] rfl (fun _ => rfl) rfl ?_
        refine dg_L (pc' := 139) [(3, .int (x3 + (1 : Int32))), (0, .ref x0), (1, .long x1)] [] rfl (fun _ => rfl) rfl ?_
        refine dw_s (pc' := 7) [] rfl (fun _ => rfl) ?_
        exact dw_j rfl (fun lv1 hv => ih (x3 + (1 : Int32)) (dc_wl (dc_wi (dc_wi m (x0 + 5) (Int32.toNatClampNeg x3) (0 : Int32)) (x0 + 6) (Int32.toNatClampNeg x3) (8448 : Int32)) (x0 + 7) (Int32.toNatClampNeg x3) (0 : Int64)) lv1 (hv.1 _ rfl) (hv.2.1 _ rfl) (hv.2.2.1 _ rfl))
noncomputable def d_X1_weighLevels (x0 : Nat) (x1 : Int64) (m : dc_M) : Option dc_M :=
  (d_X1_weighLevels_l7 x0 x1 (0 : Int32) (dc_wi m x0 9 (0 : Int32)))
set_option maxHeartbeats 8000000 in
theorem k_X1_weighLevels {u : Nat} {N : Nat} {Φ : (Option dc_M) → Option Value → dc_M → Prop} (x0 : Nat) (x1 : Int64) (m : dc_M) (kR : ∀  (m : dc_M), Φ (some (m)) (none) m)  {lv : ab_L} (f0 : ab_lk lv 0 = some (.ref x0)) (f1 : ab_lk lv 1 = some (.long x1)) : dc_pv u N ab_M_X1_weighLevels 0 lv [] m (Φ (d_X1_weighLevels x0 x1 m)) := by
  refine dc_pv.mono (dc_ok (C := C_X1_weighLevels) (S := S_X1_weighLevels) CO_X1_weighLevels 400 0 [(0, .ref x0), (1, .long x1)] lv [] m (dc_sub_cons f0 (dc_sub_cons f1 (dc_sub_nil))) ?_) (Nat.le_succ N)
  unfold d_X1_weighLevels
  refine dg_s (pc' := 1) [.ref x0] rfl (fun _ => rfl) rfl ?_
  refine dg_s (pc' := 2) [.int (0 : Int32), .ref x0] rfl (fun _ => rfl) rfl ?_
  refine dg_m (pc' := 5) (dc_wi m x0 9 (0 : Int32)) [] rfl (fun _ => rfl) rfl ?_
  refine dg_s (pc' := 6) [.int (0 : Int32)] rfl (fun _ => rfl) rfl ?_
  refine dw_L (pc' := 7) [(3, .int (0 : Int32)), (0, .ref x0), (1, .long x1)] [] rfl (fun _ => rfl) ?_
  exact dw_j rfl (fun lv1 hv => k_X1_weighLevels_l7 (Φ := (fun t => Φ t)) x0 x1 (fun _b => kR _b) N  (0 : Int32) (dc_wi m x0 9 (0 : Int32)) lv1 (hv.1 _ rfl) (hv.2.1 _ rfl) (hv.2.2.1 _ rfl))
noncomputable def H_X1_weighLevels : dc_H := fun As m k => match As with
  | [.ref x0, .long x1] => (d_X1_weighLevels x0 x1 m).bind (fun q => k (none) q)
  | _ => dc_kz
theorem H_X1_weighLevels_ok {u : Nat} : dc_cok u 9 H_X1_weighLevels := fun M' hG N As m k P hz hP => by
  obtain rfl : ab_M_X1_weighLevels = M' := Option.some.inj hG
  unfold H_X1_weighLevels at hP
  split at hP
  · rename_i x0 x1
    exact dc_pv.imp (k_X1_weighLevels (Φ := fun (t : Option dc_M) r m' => P (t.bind (fun q => k (none) q)) → P (k r m')) x0 x1 m (fun _ h => h) rfl rfl) (fun r m' h => h hP)
  · exact absurd hP hz
def C_X8_lettersOf : List (Nat × dc_H) := []
theorem CO_X8_lettersOf {u : Nat} : dc_CO u C_X8_lettersOf := dc_CO_nil
def S_X8_lettersOf : List (Nat × List Nat) := [(7, [1, 2, 3, 4])]
noncomputable def d_X8_lettersOf_l7b (x1 : Int32) (x2 : Int32) (x3 : Int32) (x4 : Int32) (m : dc_M) : Option ((Int32 × Int32 × Int32) ⊕ Int32) :=
  (if (Int32.toInt x1) ≤ (Int32.toInt x4) then some (Sum.inr (x2)) else (if (Int32.toInt (x3 - x3 / (3 : Int32) * (3 : Int32))) = 2 then some (Sum.inl (x2, (x3 / (3 : Int32)), (x4 + (1 : Int32)))) else some (Sum.inl ((x2 + (1 : Int32)), (x3 / (3 : Int32)), (x4 + (1 : Int32))))))
noncomputable def d_X8_lettersOf_l7s (x1 : Int32) (m : dc_M) : (Int32 × Int32 × Int32) → Option ((Int32 × Int32 × Int32) ⊕ Int32) := fun s => d_X8_lettersOf_l7b x1 s.1 s.2.1 s.2.2 m
noncomputable def d_X8_lettersOf_l7 (x1 : Int32) (x2 : Int32) (x3 : Int32) (x4 : Int32) (m : dc_M) : Option Int32 := dc_lp (d_X8_lettersOf_l7s x1 m) (x2, x3, x4)
set_option maxHeartbeats 8000000 in
theorem k_X8_lettersOf_l7 {u : Nat} {Φ : (Option Int32) → Option Value → dc_M → Prop} (x1 : Int32) (m : dc_M) (kR : ∀ (v : Int32), Φ (some (v)) (some (.int v)) m) : ∀ (N : Nat), ∀ (x2 : Int32) (x3 : Int32) (x4 : Int32) (lv : ab_L), ab_lk lv 1 = some (.int x1) → ab_lk lv 2 = some (.int x2) → ab_lk lv 3 = some (.int x3) → ab_lk lv 4 = some (.int x4) → dc_pv u N ab_M_X8_lettersOf 7 lv [] m (Φ (d_X8_lettersOf_l7 x1 x2 x3 x4 m)) := by
  intro N
  induction N with
  | zero => intros; exact dc_pv_zero
  | succ N ih =>
    intro x2 x3 x4 lv f1 f2 f3 f4
    refine dc_ok (C := C_X8_lettersOf) (S := S_X8_lettersOf) CO_X8_lettersOf 400 7 [(1, .int x1), (2, .int x2), (3, .int x3), (4, .int x4)] lv [] m (dc_sub_cons f1 (dc_sub_cons f2 (dc_sub_cons f3 (dc_sub_cons f4 (dc_sub_nil))))) ?_
    unfold d_X8_lettersOf_l7
    rw [dc_lp_eq]
    show (fun t x => dc_lf u N ab_M_X8_lettersOf (Φ (Option.bind t (dc_bk (d_X8_lettersOf_l7s x1 m)))) x) (d_X8_lettersOf_l7b x1 x2 x3 x4 m) _
    dsimp only
    unfold d_X8_lettersOf_l7b
    refine dg_s (pc' := 9) [.int x4] rfl (fun _ => rfl) rfl ?_
    refine dg_s (pc' := 10) [.int x1, .int x4] rfl (fun _ => rfl) rfl ?_
    refine dw_if (fun t => Φ (Option.bind t (dc_bk (d_X8_lettersOf_l7s x1 m)))) ((Int32.toInt x1) ≤ (Int32.toInt x4)) [] 33 13 rfl (fun _ => rfl) (fun c0 => ?_) (fun c0 => ?_)
    · refine dw_g rfl ?_
      refine dg_s (pc' := 34) [.int x2] rfl (fun _ => rfl) rfl ?_
      exact dw_r (some (.inl (some (.int x2), m))) rfl (fun _ => rfl) (kR _)
    · refine dw_g rfl ?_
      refine dg_s (pc' := 14) [.int x3] rfl (fun _ => rfl) rfl ?_
      refine dg_s (pc' := 15) [.int (3 : Int32), .int x3] rfl (fun _ => rfl) rfl ?_
      refine dg_s (pc' := 16) [.int (x3 - x3 / (3 : Int32) * (3 : Int32))] rfl (fun _ => rfl) rfl ?_
      refine dg_s (pc' := 17) [.int (2 : Int32), .int (x3 - x3 / (3 : Int32) * (3 : Int32))] rfl (fun _ => rfl) rfl ?_
      refine dw_if (fun t => Φ (Option.bind t (dc_bk (d_X8_lettersOf_l7s x1 m)))) ((Int32.toInt (x3 - x3 / (3 : Int32) * (3 : Int32))) = 2) [] 23 20 rfl (fun _ => rfl) (fun c1 => ?_) (fun c1 => ?_)
      · refine dw_g rfl ?_
        refine dg_s (pc' := 24) [.int x3] rfl (fun _ => rfl) rfl ?_
        refine dg_s (pc' := 25) [.int (3 : Int32), .int x3] rfl (fun _ => rfl) rfl ?_
        refine dg_s (pc' := 26) [.int (x3 / (3 : Int32))] rfl (fun _ => rfl) rfl ?_
        refine dg_L (pc' := 27) [(3, .int (x3 / (3 : Int32))), (1, .int x1), (2, .int x2), (4, .int x4)] [] rfl (fun _ => rfl) rfl ?_
        refine dg_L (pc' := 30) [(4, .int (x4 + (1 : Int32))), (3, .int (x3 / (3 : Int32))), (1, .int x1), (2, .int x2)] [] rfl (fun _ => rfl) rfl ?_
        refine dw_s (pc' := 7) [] rfl (fun _ => rfl) ?_
        exact dw_j rfl (fun lv1 hv => ih x2 (x3 / (3 : Int32)) (x4 + (1 : Int32)) lv1 (hv.1 _ rfl) (hv.2.1 _ rfl) (hv.2.2.1 _ rfl) (hv.2.2.2.1 _ rfl))
      · refine dw_g rfl ?_
        refine dg_L (pc' := 23) [(2, .int (x2 + (1 : Int32))), (1, .int x1), (3, .int x3), (4, .int x4)] [] rfl (fun _ => rfl) rfl ?_
        refine dg_s (pc' := 24) [.int x3] rfl (fun _ => rfl) rfl ?_
        refine dg_s (pc' := 25) [.int (3 : Int32), .int x3] rfl (fun _ => rfl) rfl ?_
        refine dg_s (pc' := 26) [.int (x3 / (3 : Int32))] rfl (fun _ => rfl) rfl ?_
        refine dg_L (pc' := 27) [(3, .int (x3 / (3 : Int32))), (2, .int (x2 + (1 : Int32))), (1, .int x1), (4, .int x4)] [] rfl (fun _ => rfl) rfl ?_
        refine dg_L (pc' := 30) [(4, .int (x4 + (1 : Int32))), (3, .int (x3 / (3 : Int32))), (2, .int (x2 + (1 : Int32))), (1, .int x1)] [] rfl (fun _ => rfl) rfl ?_
        refine dw_s (pc' := 7) [] rfl (fun _ => rfl) ?_
        exact dw_j rfl (fun lv1 hv => ih (x2 + (1 : Int32)) (x3 / (3 : Int32)) (x4 + (1 : Int32)) lv1 (hv.1 _ rfl) (hv.2.1 _ rfl) (hv.2.2.1 _ rfl) (hv.2.2.2.1 _ rfl))
noncomputable def d_X8_lettersOf (x0 : Int32) (x1 : Int32) (m : dc_M) : Option Int32 :=
  (d_X8_lettersOf_l7 x1 (0 : Int32) x0 (0 : Int32) m)
set_option maxHeartbeats 8000000 in
theorem k_X8_lettersOf {u : Nat} {N : Nat} {Φ : (Option Int32) → Option Value → dc_M → Prop} (x0 : Int32) (x1 : Int32) (m : dc_M) (kR : ∀ (v : Int32), Φ (some (v)) (some (.int v)) m)  {lv : ab_L} (f0 : ab_lk lv 0 = some (.int x0)) (f1 : ab_lk lv 1 = some (.int x1)) : dc_pv u N ab_M_X8_lettersOf 0 lv [] m (Φ (d_X8_lettersOf x0 x1 m)) := by
  refine dc_pv.mono (dc_ok (C := C_X8_lettersOf) (S := S_X8_lettersOf) CO_X8_lettersOf 400 0 [(0, .int x0), (1, .int x1)] lv [] m (dc_sub_cons f0 (dc_sub_cons f1 (dc_sub_nil))) ?_) (Nat.le_succ N)
  unfold d_X8_lettersOf
  refine dg_s (pc' := 1) [.int (0 : Int32)] rfl (fun _ => rfl) rfl ?_
  refine dg_L (pc' := 2) [(2, .int (0 : Int32)), (0, .int x0), (1, .int x1)] [] rfl (fun _ => rfl) rfl ?_
  refine dg_s (pc' := 3) [.int x0] rfl (fun _ => rfl) rfl ?_
  refine dg_L (pc' := 4) [(3, .int x0), (2, .int (0 : Int32)), (0, .int x0), (1, .int x1)] [] rfl (fun _ => rfl) rfl ?_
  refine dg_s (pc' := 5) [.int (0 : Int32)] rfl (fun _ => rfl) rfl ?_
  refine dw_L (pc' := 7) [(4, .int (0 : Int32)), (3, .int x0), (2, .int (0 : Int32)), (0, .int x0), (1, .int x1)] [] rfl (fun _ => rfl) ?_
  exact dw_j rfl (fun lv1 hv => k_X8_lettersOf_l7 (Φ := (fun t => Φ t)) x1 m (fun _a  => kR _a) N  (0 : Int32) x0 (0 : Int32) lv1 (hv.1 _ rfl) (hv.2.1 _ rfl) (hv.2.2.1 _ rfl) (hv.2.2.2.1 _ rfl))
noncomputable def H_X8_lettersOf : dc_H := fun As m k => match As with
  | [.int x0, .int x1] => (d_X8_lettersOf x0 x1 m).bind (fun q => k (some (.int q)) m)
  | _ => dc_kz
theorem H_X8_lettersOf_ok {u : Nat} : dc_cok u 99 H_X8_lettersOf := fun M' hG N As m k P hz hP => by
  obtain rfl : ab_M_X8_lettersOf = M' := Option.some.inj hG
  unfold H_X8_lettersOf at hP
  split at hP
  · rename_i x0 x1
    exact dc_pv.imp (k_X8_lettersOf (Φ := fun (t : Option Int32) r m' => P (t.bind (fun q => k (some (.int q)) m)) → P (k r m')) x0 x1 m (fun _  h => h) rfl rfl) (fun r m' h => h hP)
  · exact absurd hP hz
