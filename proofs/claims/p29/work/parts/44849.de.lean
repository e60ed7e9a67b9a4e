/-! ===== methods as functions (written by a program) ===== -/
def C_X10_layLevels : List (Nat × dc_H) := []
theorem CO_X10_layLevels {u : Nat} : dc_CO u C_X10_layLevels := dc_CO_nil
def S_X10_layLevels : List (Nat × List Nat) := [(2, [0, 1, 2, 3]), (23, [0, 1, 2]), (57, [0, 1, 3, 4]), (68, [0, 1, 3, 4, 5]), (80, [0, 1, 3, 4, 5, 6]), (157, [0, 1, 3, 4, 5, 6, 7, 8]), (191, [0, 1, 4, 5, 6, 7, 9])]
noncomputable def d_X10_layLevels_b191 (x0 : Nat) (x1 : Int32) (x4 : Int32) (x5 : Int32) (x6 : Int32) (x7 : Int32) (x9 : Int32) (s0 : Int32) (m : dc_M) : Option ((Int32 × Int32 × Int32 × dc_M) ⊕ ((Int32 × Int32 × Int32 × dc_M) ⊕ ((Int32 × Int32 × dc_M) ⊕ (Int32 × dc_M)))) :=
  (if (Int32.toInt (m.1 (x0 + 20) (Int32.toNatClampNeg x7))) = 0 then some (Sum.inl (s0, (1 : Int32), (x6 + (1 : Int32)), (dc_wi (dc_wi m (x0 + 19) (Int32.toNatClampNeg x7) (((m.1 (x0 + 19) (Int32.toNatClampNeg x7)) &&& (((1 : Int32) <<< (x1 &&& 31)) ^^^ (-1 : Int32))) ||| (x9 <<< (x1 &&& 31)))) (x0 + 20) (Int32.toNatClampNeg x7) (dc_nar ((dc_wi m (x0 + 19) (Int32.toNatClampNeg x7) (((m.1 (x0 + 19) (Int32.toNatClampNeg x7)) &&& (((1 : Int32) <<< (x1 &&& 31)) ^^^ (-1 : Int32))) ||| (x9 <<< (x1 &&& 31)))).2.2.2 (x0 + 20)).1 (1 : Int32))))) else (if (Int32.toInt s0) = 0 then some (Sum.inl ((0 : Int32), x4, (x6 + (1 : Int32)), m)) else (if ¬ (Int32.toInt (((m.1 (x0 + 19) (Int32.toNatClampNeg x7)) >>> (x1 &&& 31)) &&& (1 : Int32))) = (Int32.toInt x9) then some (Sum.inl ((0 : Int32), x4, (x6 + (1 : Int32)), m)) else some (Sum.inl ((1 : Int32), x4, (x6 + (1 : Int32)), m)))))
set_option maxHeartbeats 8000000 in
theorem k_X10_layLevels_b191 {u : Nat} {N : Nat} {Φ : (Option ((Int32 × Int32 × Int32 × dc_M) ⊕ ((Int32 × Int32 × Int32 × dc_M) ⊕ ((Int32 × Int32 × dc_M) ⊕ (Int32 × dc_M))))) → Option Value → dc_M → Prop} (x0 : Nat) (x1 : Int32) (x4 : Int32) (x5 : Int32) (x6 : Int32) (x7 : Int32) (x9 : Int32) (s0 : Int32) (m : dc_M) (kR : ∀ (v : Int32) (m : dc_M), Φ (some (Sum.inr (Sum.inr (Sum.inr ((v, m)))))) (some (.int v)) m) (k80 : ∀ (x3 : Int32) (x4 : Int32) (x6 : Int32) (m : dc_M) (lv : ab_L), ab_lk lv 0 = some (.ref x0) → ab_lk lv 1 = some (.int x1) → ab_lk lv 3 = some (.int x3) → ab_lk lv 4 = some (.int x4) → ab_lk lv 5 = some (.int x5) → ab_lk lv 6 = some (.int x6) →  dc_pv u N ab_M_X10_layLevels 80 lv [] m (Φ (some (Sum.inl (x3, x4, x6, m))))) (k68 : ∀ (x3 : Int32) (x4 : Int32) (x5 : Int32) (m : dc_M) (lv : ab_L), ab_lk lv 0 = some (.ref x0) → ab_lk lv 1 = some (.int x1) → ab_lk lv 3 = some (.int x3) → ab_lk lv 4 = some (.int x4) → ab_lk lv 5 = some (.int x5) →  dc_pv u N ab_M_X10_layLevels 68 lv [] m (Φ (some (Sum.inr (Sum.inl (x3, x4, x5, m)))))) (k57 : ∀ (x3 : Int32) (x4 : Int32) (m : dc_M) (lv : ab_L), ab_lk lv 0 = some (.ref x0) → ab_lk lv 1 = some (.int x1) → ab_lk lv 3 = some (.int x3) → ab_lk lv 4 = some (.int x4) →  dc_pv u N ab_M_X10_layLevels 57 lv [] m (Φ (some (Sum.inr (Sum.inr (Sum.inl (x3, x4, m))))))) {lv : ab_L} (f0 : ab_lk lv 0 = some (.ref x0)) (f1 : ab_lk lv 1 = some (.int x1)) (f4 : ab_lk lv 4 = some (.int x4)) (f5 : ab_lk lv 5 = some (.int x5)) (f6 : ab_lk lv 6 = some (.int x6)) (f7 : ab_lk lv 7 = some (.int x7)) (f9 : ab_lk lv 9 = some (.int x9)) : dc_pv u N ab_M_X10_layLevels 191 lv [.int s0] m (Φ (d_X10_layLevels_b191 x0 x1 x4 x5 x6 x7 x9 s0 m)) := by
  refine dc_pv.mono (dc_ok (C := C_X10_layLevels) (S := S_X10_layLevels) CO_X10_layLevels 400 191 [(0, .ref x0), (1, .int x1), (4, .int x4), (5, .int x5), (6, .int x6), (7, .int x7), (9, .int x9)] lv [.int s0] m (dc_sub_cons f0 (dc_sub_cons f1 (dc_sub_cons f4 (dc_sub_cons f5 (dc_sub_cons f6 (dc_sub_cons f7 (dc_sub_cons f9 (dc_sub_nil)))))))) ?_) (Nat.le_succ N)
  unfold d_X10_layLevels_b191
  refine dg_L (pc' := 192) [(3, .int s0), (0, .ref x0), (1, .int x1), (4, .int x4), (5, .int x5), (6, .int x6), (7, .int x7), (9, .int x9)] [] rfl (fun _ => rfl) rfl ?_
  refine dg_s (pc' := 193) [.ref x0] rfl (fun _ => rfl) rfl ?_
  refine dg_s (pc' := 196) [.ref (x0 + 20)] rfl (fun _ => rfl) rfl ?_
  refine dg_s (pc' := 198) [.int x7, .ref (x0 + 20)] rfl (fun _ => rfl) rfl ?_
  refine dg_s (pc' := 199) [.int (m.1 (x0 + 20) (Int32.toNatClampNeg x7))] rfl (fun _ => rfl) rfl ?_
  refine dw_if (fun t => Φ t) ((Int32.toInt (m.1 (x0 + 20) (Int32.toNatClampNeg x7))) = 0) [] 231 202 rfl (fun _ => rfl) (fun c0 => ?_) (fun c0 => ?_)
  · refine dw_g rfl ?_
    refine dg_s (pc' := 232) [.ref x0] rfl (fun _ => rfl) rfl ?_
    refine dg_s (pc' := 235) [.ref (x0 + 19)] rfl (fun _ => rfl) rfl ?_
    refine dg_s (pc' := 237) [.int x7, .ref (x0 + 19)] rfl (fun _ => rfl) rfl ?_
    refine dg_s (pc' := 238) [.ref x0, .int x7, .ref (x0 + 19)] rfl (fun _ => rfl) rfl ?_
    refine dg_s (pc' := 241) [.ref (x0 + 19), .int x7, .ref (x0 + 19)] rfl (fun _ => rfl) rfl ?_
    refine dg_s (pc' := 243) [.int x7, .ref (x0 + 19), .int x7, .ref (x0 + 19)] rfl (fun _ => rfl) rfl ?_
    refine dg_s (pc' := 244) [.int (m.1 (x0 + 19) (Int32.toNatClampNeg x7)), .int x7, .ref (x0 + 19)] rfl (fun _ => rfl) rfl ?_
    refine dg_s (pc' := 245) [.int (1 : Int32), .int (m.1 (x0 + 19) (Int32.toNatClampNeg x7)), .int x7, .ref (x0 + 19)] rfl (fun _ => rfl) rfl ?_
    refine dg_s (pc' := 246) [.int x1, .int (1 : Int32), .int (m.1 (x0 + 19) (Int32.toNatClampNeg x7)), .int x7, .ref (x0 + 19)] rfl (fun _ => rfl) rfl ?_
    refine dg_s (pc' := 247) [.int ((1 : Int32) <<< (x1 &&& 31)), .int (m.1 (x0 + 19) (Int32.toNatClampNeg x7)), .int x7, .ref (x0 + 19)] rfl (fun _ => rfl) rfl ?_
    refine dg_s (pc' := 248) [.int (-1 : Int32), .int ((1 : Int32) <<< (x1 &&& 31)), .int (m.1 (x0 + 19) (Int32.toNatClampNeg x7)), .int x7, .ref (x0 + 19)] rfl (fun _ => rfl) rfl ?_
    refine dg_s (pc' := 249) [.int (((1 : Int32) <<< (x1 &&& 31)) ^^^ (-1 : Int32)), .int (m.1 (x0 + 19) (Int32.toNatClampNeg x7)), .int x7, .ref (x0 + 19)] rfl (fun _ => rfl) rfl ?_
    refine dg_s (pc' := 250) [.int ((m.1 (x0 + 19) (Int32.toNatClampNeg x7)) &&& (((1 : Int32) <<< (x1 &&& 31)) ^^^ (-1 : Int32))), .int x7, .ref (x0 + 19)] rfl (fun _ => rfl) rfl ?_
    refine dg_s (pc' := 252) [.int x9, .int ((m.1 (x0 + 19) (Int32.toNatClampNeg x7)) &&& (((1 : Int32) <<< (x1 &&& 31)) ^^^ (-1 : Int32))), .int x7, .ref (x0 + 19)] rfl (fun _ => rfl) rfl ?_
    refine dg_s (pc' := 253) [.int x1, .int x9, .int ((m.1 (x0 + 19) (Int32.toNatClampNeg x7)) &&& (((1 : Int32) <<< (x1 &&& 31)) ^^^ (-1 : Int32))), .int x7, .ref (x0 + 19)] rfl (fun _ => rfl) rfl ?_
    refine dg_s (pc' := 254) [.int (x9 <<< (x1 &&& 31)), .int ((m.1 (x0 + 19) (Int32.toNatClampNeg x7)) &&& (((1 : Int32) <<< (x1 &&& 31)) ^^^ (-1 : Int32))), .int x7, .ref (x0 + 19)] rfl (fun _ => rfl) rfl ?_
    refine dg_s (pc' := 255) [.int (((m.1 (x0 + 19) (Int32.toNatClampNeg x7)) &&& (((1 : Int32) <<< (x1 &&& 31)) ^^^ (-1 : Int32))) ||| (x9 <<< (x1 &&& 31))), .int x7, .ref (x0 + 19)] rfl (fun _ => rfl) rfl ?_
    refine dg_m (pc' := 256) (dc_wi m (x0 + 19) (Int32.toNatClampNeg x7) (((m.1 (x0 + 19) (Int32.toNatClampNeg x7)) &&& (((1 : Int32) <<< (x1 &&& 31)) ^^^ (-1 : Int32))) ||| (x9 <<< (x1 &&& 31)))) [] rfl (fun _ => rfl) rfl ?_
    refine dg_s (pc' := 257) [.ref x0] rfl (fun _ => rfl) rfl ?_
    refine dg_s (pc' := 260) [.ref (x0 + 20)] rfl (fun _ => rfl) rfl ?_
    refine dg_s (pc' := 262) [.int x7, .ref (x0 + 20)] rfl (fun _ => rfl) rfl ?_
    refine dg_s (pc' := 263) [.int (1 : Int32), .int x7, .ref (x0 + 20)] rfl (fun _ => rfl) rfl ?_
    refine dg_m (pc' := 264) (dc_wi (dc_wi m (x0 + 19) (Int32.toNatClampNeg x7) (((m.1 (x0 + 19) (Int32.toNatClampNeg x7)) &&& (((1 : Int32) <<< (x1 &&& 31)) ^^^ (-1 : Int32))) ||| (x9 <<< (x1 &&& 31)))) (x0 + 20) (Int32.toNatClampNeg x7) (dc_nar ((dc_wi m (x0 + 19) (Int32.toNatClampNeg x7) (((m.1 (x0 + 19) (Int32.toNatClampNeg x7)) &&& (((1 : Int32) <<< (x1 &&& 31)) ^^^ (-1 : Int32))) ||| (x9 <<< (x1 &&& 31)))).2.2.2 (x0 + 20)).1 (1 : Int32))) [] rfl (fun _ => rfl) rfl ?_
    refine dg_s (pc' := 265) [.int (1 : Int32)] rfl (fun _ => rfl) rfl ?_
    refine dg_L (pc' := 267) [(4, .int (1 : Int32)), (3, .int s0), (0, .ref x0), (1, .int x1), (5, .int x5), (6, .int x6), (7, .int x7), (9, .int x9)] [] rfl (fun _ => rfl) rfl ?_
    refine dg_L (pc' := 270) [(6, .int (x6 + (1 : Int32))), (4, .int (1 : Int32)), (3, .int s0), (0, .ref x0), (1, .int x1), (5, .int x5), (7, .int x7), (9, .int x9)] [] rfl (fun _ => rfl) rfl ?_
    refine dw_s (pc' := 80) [] rfl (fun _ => rfl) ?_
    exact dw_j rfl (fun lv1 hv => k80 s0 (1 : Int32) (x6 + (1 : Int32)) (dc_wi (dc_wi m (x0 + 19) (Int32.toNatClampNeg x7) (((m.1 (x0 + 19) (Int32.toNatClampNeg x7)) &&& (((1 : Int32) <<< (x1 &&& 31)) ^^^ (-1 : Int32))) ||| (x9 <<< (x1 &&& 31)))) (x0 + 20) (Int32.toNatClampNeg x7) (dc_nar ((dc_wi m (x0 + 19) (Int32.toNatClampNeg x7) (((m.1 (x0 + 19) (Int32.toNatClampNeg x7)) &&& (((1 : Int32) <<< (x1 &&& 31)) ^^^ (-1 : Int32))) ||| (x9 <<< (x1 &&& 31)))).2.2.2 (x0 + 20)).1 (1 : Int32))) lv1 (hv.1 _ rfl) (hv.2.1 _ rfl) (hv.2.2.1 _ rfl) (hv.2.2.2.1 _ rfl) (hv.2.2.2.2.1 _ rfl) (hv.2.2.2.2.2.1 _ rfl))
  · refine dw_g rfl ?_
    refine dg_s (pc' := 203) [.int s0] rfl (fun _ => rfl) rfl ?_
    refine dw_if (fun t => Φ t) ((Int32.toInt s0) = 0) [] 226 206 rfl (fun _ => rfl) (fun c1 => ?_) (fun c1 => ?_)
    · refine dw_g rfl ?_
      refine dg_s (pc' := 227) [.int (0 : Int32)] rfl (fun _ => rfl) rfl ?_
      refine dg_L (pc' := 228) [(3, .int (0 : Int32)), (0, .ref x0), (1, .int x1), (4, .int x4), (5, .int x5), (6, .int x6), (7, .int x7), (9, .int x9)] [] rfl (fun _ => rfl) rfl ?_
      refine dg_s (pc' := 267) [] rfl (fun _ => rfl) rfl ?_
      refine dg_L (pc' := 270) [(6, .int (x6 + (1 : Int32))), (3, .int (0 : Int32)), (0, .ref x0), (1, .int x1), (4, .int x4), (5, .int x5), (7, .int x7), (9, .int x9)] [] rfl (fun _ => rfl) rfl ?_
      refine dw_s (pc' := 80) [] rfl (fun _ => rfl) ?_
      exact dw_j rfl (fun lv1 hv => k80 (0 : Int32) x4 (x6 + (1 : Int32)) m lv1 (hv.1 _ rfl) (hv.2.1 _ rfl) (hv.2.2.1 _ rfl) (hv.2.2.2.1 _ rfl) (hv.2.2.2.2.1 _ rfl) (hv.2.2.2.2.2.1 _ rfl))
    · refine dw_g rfl ?_
      refine dg_s (pc' := 207) [.ref x0] rfl (fun _ => rfl) rfl ?_
      refine dg_s (pc' := 210) [.ref (x0 + 19)] rfl (fun _ => rfl) rfl ?_
      refine dg_s (pc' := 212) [.int x7, .ref (x0 + 19)] rfl (fun _ => rfl) rfl ?_
      refine dg_s (pc' := 213) [.int (m.1 (x0 + 19) (Int32.toNatClampNeg x7))] rfl (fun _ => rfl) rfl ?_
      refine dg_s (pc' := 214) [.int x1, .int (m.1 (x0 + 19) (Int32.toNatClampNeg x7))] rfl (fun _ => rfl) rfl ?_
      refine dg_s (pc' := 215) [.int ((m.1 (x0 + 19) (Int32.toNatClampNeg x7)) >>> (x1 &&& 31))] rfl (fun _ => rfl) rfl ?_
      refine dg_s (pc' := 216) [.int (1 : Int32), .int ((m.1 (x0 + 19) (Int32.toNatClampNeg x7)) >>> (x1 &&& 31))] rfl (fun _ => rfl) rfl ?_
      refine dg_s (pc' := 217) [.int (((m.1 (x0 + 19) (Int32.toNatClampNeg x7)) >>> (x1 &&& 31)) &&& (1 : Int32))] rfl (fun _ => rfl) rfl ?_
      refine dg_s (pc' := 219) [.int x9, .int (((m.1 (x0 + 19) (Int32.toNatClampNeg x7)) >>> (x1 &&& 31)) &&& (1 : Int32))] rfl (fun _ => rfl) rfl ?_
      refine dw_if (fun t => Φ t) (¬ (Int32.toInt (((m.1 (x0 + 19) (Int32.toNatClampNeg x7)) >>> (x1 &&& 31)) &&& (1 : Int32))) = (Int32.toInt x9)) [] 226 222 rfl (fun _ => rfl) (fun c2 => ?_) (fun c2 => ?_)
      · refine dw_g rfl ?_
        refine dg_s (pc' := 227) [.int (0 : Int32)] rfl (fun _ => rfl) rfl ?_
        refine dg_L (pc' := 228) [(3, .int (0 : Int32)), (0, .ref x0), (1, .int x1), (4, .int x4), (5, .int x5), (6, .int x6), (7, .int x7), (9, .int x9)] [] rfl (fun _ => rfl) rfl ?_
        refine dg_s (pc' := 267) [] rfl (fun _ => rfl) rfl ?_
        refine dg_L (pc' := 270) [(6, .int (x6 + (1 : Int32))), (3, .int (0 : Int32)), (0, .ref x0), (1, .int x1), (4, .int x4), (5, .int x5), (7, .int x7), (9, .int x9)] [] rfl (fun _ => rfl) rfl ?_
        refine dw_s (pc' := 80) [] rfl (fun _ => rfl) ?_
        exact dw_j rfl (fun lv1 hv => k80 (0 : Int32) x4 (x6 + (1 : Int32)) m lv1 (hv.1 _ rfl) (hv.2.1 _ rfl) (hv.2.2.1 _ rfl) (hv.2.2.2.1 _ rfl) (hv.2.2.2.2.1 _ rfl) (hv.2.2.2.2.2.1 _ rfl))
      · refine dw_g rfl ?_
        refine dg_s (pc' := 223) [.int (1 : Int32)] rfl (fun _ => rfl) rfl ?_
        refine dg_s (pc' := 227) [.int (1 : Int32)] rfl (fun _ => rfl) rfl ?_
        refine dg_L (pc' := 228) [(3, .int (1 : Int32)), (0, .ref x0), (1, .int x1), (4, .int x4), (5, .int x5), (6, .int x6), (7, .int x7), (9, .int x9)] [] rfl (fun _ => rfl) rfl ?_
        refine dg_s (pc' := 267) [] rfl (fun _ => rfl) rfl ?_
        refine dg_L (pc' := 270) [(6, .int (x6 + (1 : Int32))), (3, .int (1 : Int32)), (0, .ref x0), (1, .int x1), (4, .int x4), (5, .int x5), (7, .int x7), (9, .int x9)] [] rfl (fun _ => rfl) rfl ?_
        refine dw_s (pc' := 80) [] rfl (fun _ => rfl) ?_
        exact dw_j rfl (fun lv1 hv => k80 (1 : Int32) x4 (x6 + (1 : Int32)) m lv1 (hv.1 _ rfl) (hv.2.1 _ rfl) (hv.2.2.1 _ rfl) (hv.2.2.2.1 _ rfl) (hv.2.2.2.2.1 _ rfl) (hv.2.2.2.2.2.1 _ rfl))
noncomputable def d_X10_layLevels_b157 (x0 : Nat) (x1 : Int32) (x3 : Int32) (x4 : Int32) (x5 : Int32) (x6 : Int32) (x7 : Int32) (x8 : Int32) (s0 : Int32) (m : dc_M) : Option ((Int32 × Int32 × Int32 × dc_M) ⊕ ((Int32 × Int32 × Int32 × dc_M) ⊕ ((Int32 × Int32 × dc_M) ⊕ (Int32 × dc_M)))) :=
  (if (Int32.toInt x3) = 0 then (d_X10_layLevels_b191 x0 x1 x4 x5 x6 x7 s0 (0 : Int32) m) else (if ¬ (Int32.toInt (m.1 (x0 + 3) (Int32.toNatClampNeg x6))) = (Int32.toInt x1) then (d_X10_layLevels_b191 x0 x1 x4 x5 x6 x7 s0 (1 : Int32) m) else (if (Int32.toInt x8) = (Int32.toInt (m.1 (x0 + 4) (Int32.toNatClampNeg x6))) then (d_X10_layLevels_b191 x0 x1 x4 x5 x6 x7 s0 (0 : Int32) m) else (d_X10_layLevels_b191 x0 x1 x4 x5 x6 x7 s0 (1 : Int32) m))))
set_option maxHeartbeats 8000000 in
theorem k_X10_layLevels_b157 {u : Nat} {N : Nat} {Φ : (Option ((Int32 × Int32 × Int32 × dc_M) ⊕ ((Int32 × Int32 × Int32 × dc_M) ⊕ ((Int32 × Int32 × dc_M) ⊕ (Int32 × dc_M))))) → Option Value → dc_M → Prop} (x0 : Nat) (x1 : Int32) (x3 : Int32) (x4 : Int32) (x5 : Int32) (x6 : Int32) (x7 : Int32) (x8 : Int32) (s0 : Int32) (m : dc_M) (kR : ∀ (v : Int32) (m : dc_M), Φ (some (Sum.inr (Sum.inr (Sum.inr ((v, m)))))) (some (.int v)) m) (k80 : ∀ (x3 : Int32) (x4 : Int32) (x6 : Int32) (m : dc_M) (lv : ab_L), ab_lk lv 0 = some (.ref x0) → ab_lk lv 1 = some (.int x1) → ab_lk lv 3 = some (.int x3) → ab_lk lv 4 = some (.int x4) → ab_lk lv 5 = some (.int x5) → ab_lk lv 6 = some (.int x6) →  dc_pv u N ab_M_X10_layLevels 80 lv [] m (Φ (some (Sum.inl (x3, x4, x6, m))))) (k68 : ∀ (x3 : Int32) (x4 : Int32) (x5 : Int32) (m : dc_M) (lv : ab_L), ab_lk lv 0 = some (.ref x0) → ab_lk lv 1 = some (.int x1) → ab_lk lv 3 = some (.int x3) → ab_lk lv 4 = some (.int x4) → ab_lk lv 5 = some (.int x5) →  dc_pv u N ab_M_X10_layLevels 68 lv [] m (Φ (some (Sum.inr (Sum.inl (x3, x4, x5, m)))))) (k57 : ∀ (x3 : Int32) (x4 : Int32) (m : dc_M) (lv : ab_L), ab_lk lv 0 = some (.ref x0) → ab_lk lv 1 = some (.int x1) → ab_lk lv 3 = some (.int x3) → ab_lk lv 4 = some (.int x4) →  dc_pv u N ab_M_X10_layLevels 57 lv [] m (Φ (some (Sum.inr (Sum.inr (Sum.inl (x3, x4, m))))))) {lv : ab_L} (f0 : ab_lk lv 0 = some (.ref x0)) (f1 : ab_lk lv 1 = some (.int x1)) (f3 : ab_lk lv 3 = some (.int x3)) (f4 : ab_lk lv 4 = some (.int x4)) (f5 : ab_lk lv 5 = some (.int x5)) (f6 : ab_lk lv 6 = some (.int x6)) (f7 : ab_lk lv 7 = some (.int x7)) (f8 : ab_lk lv 8 = some (.int x8)) : dc_pv u N ab_M_X10_layLevels 157 lv [.int s0] m (Φ (d_X10_layLevels_b157 x0 x1 x3 x4 x5 x6 x7 x8 s0 m)) := by
  refine dc_pv.mono (dc_ok (C := C_X10_layLevels) (S := S_X10_layLevels) CO_X10_layLevels 400 157 [(0, .ref x0), (1, .int x1), (3, .int x3), (4, .int x4), (5, .int x5), (6, .int x6), (7, .int x7), (8, .int x8)] lv [.int s0] m (dc_sub_cons f0 (dc_sub_cons f1 (dc_sub_cons f3 (dc_sub_cons f4 (dc_sub_cons f5 (dc_sub_cons f6 (dc_sub_cons f7 (dc_sub_cons f8 (dc_sub_nil))))))))) ?_) (Nat.le_succ N)
  unfold d_X10_layLevels_b157
  refine dg_L (pc' := 159) [(9, .int s0), (0, .ref x0), (1, .int x1), (3, .int x3), (4, .int x4), (5, .int x5), (6, .int x6), (7, .int x7), (8, .int x8)] [] rfl (fun _ => rfl) rfl ?_
  refine dg_s (pc' := 160) [.int x3] rfl (fun _ => rfl) rfl ?_
  refine dw_if (fun t => Φ t) ((Int32.toInt x3) = 0) [] 190 163 rfl (fun _ => rfl) (fun c0 => ?_) (fun c0 => ?_)
  · refine dw_g rfl ?_
    refine dw_s (pc' := 191) [.int (0 : Int32)] rfl (fun _ => rfl) ?_
    exact dw_j rfl (fun lv1 hv => k_X10_layLevels_b191 (Φ := (fun t => Φ t)) x0 x1 x4 x5 x6 x7 s0 (0 : Int32) m (fun _a _b => kR _a _b) k80 k68 k57 (hv.1 _ rfl) (hv.2.1 _ rfl) (hv.2.2.1 _ rfl) (hv.2.2.2.1 _ rfl) (hv.2.2.2.2.1 _ rfl) (hv.2.2.2.2.2.1 _ rfl) (hv.2.2.2.2.2.2.1 _ rfl))
  · refine dw_g rfl ?_
    refine dg_s (pc' := 164) [.ref x0] rfl (fun _ => rfl) rfl ?_
    refine dg_s (pc' := 167) [.ref (x0 + 3)] rfl (fun _ => rfl) rfl ?_
    refine dg_s (pc' := 169) [.int x6, .ref (x0 + 3)] rfl (fun _ => rfl) rfl ?_
    refine dg_s (pc' := 170) [.int (m.1 (x0 + 3) (Int32.toNatClampNeg x6))] rfl (fun _ => rfl) rfl ?_
    refine dg_s (pc' := 171) [.int x1, .int (m.1 (x0 + 3) (Int32.toNatClampNeg x6))] rfl (fun _ => rfl) rfl ?_
    refine dw_if (fun t => Φ t) (¬ (Int32.toInt (m.1 (x0 + 3) (Int32.toNatClampNeg x6))) = (Int32.toInt x1)) [] 186 174 rfl (fun _ => rfl) (fun c1 => ?_) (fun c1 => ?_)
    · refine dw_g rfl ?_
      refine dg_s (pc' := 187) [.int (1 : Int32)] rfl (fun _ => rfl) rfl ?_
      refine dw_s (pc' := 191) [.int (1 : Int32)] rfl (fun _ => rfl) ?_
      exact dw_j rfl (fun lv1 hv => k_X10_layLevels_b191 (Φ := (fun t => Φ t)) x0 x1 x4 x5 x6 x7 s0 (1 : Int32) m (fun _a _b => kR _a _b) k80 k68 k57 (hv.1 _ rfl) (hv.2.1 _ rfl) (hv.2.2.1 _ rfl) (hv.2.2.2.1 _ rfl) (hv.2.2.2.2.1 _ rfl) (hv.2.2.2.2.2.1 _ rfl) (hv.2.2.2.2.2.2.1 _ rfl))
    · refine dw_g rfl ?_
      refine dg_s (pc' := 176) [.int x8] rfl (fun _ => rfl) rfl ?_
      refine dg_s (pc' := 177) [.ref x0, .int x8] rfl (fun _ => rfl) rfl ?_
      refine dg_s (pc' := 180) [.ref (x0 + 4), .int x8] rfl (fun _ => rfl) rfl ?_
      refine dg_s (pc' := 182) [.int x6, .ref (x0 + 4), .int x8] rfl (fun _ => rfl) rfl ?_
      refine dg_s (pc' := 183) [.int (m.1 (x0 + 4) (Int32.toNatClampNeg x6)), .int x8] rfl (fun _ => rfl) rfl ?_
      refine dw_if (fun t => Φ t) ((Int32.toInt x8) = (Int32.toInt (m.1 (x0 + 4) (Int32.toNatClampNeg x6)))) [] 190 186 rfl (fun _ => rfl) (fun c2 => ?_) (fun c2 => ?_)
      · refine dw_g rfl ?_
        refine dw_s (pc' := 191) [.int (0 : Int32)] rfl (fun _ => rfl) ?_
        exact dw_j rfl (fun lv1 hv => k_X10_layLevels_b191 (Φ := (fun t => Φ t)) x0 x1 x4 x5 x6 x7 s0 (0 : Int32) m (fun _a _b => kR _a _b) k80 k68 k57 (hv.1 _ rfl) (hv.2.1 _ rfl) (hv.2.2.1 _ rfl) (hv.2.2.2.1 _ rfl) (hv.2.2.2.2.1 _ rfl) (hv.2.2.2.2.2.1 _ rfl) (hv.2.2.2.2.2.2.1 _ rfl))
      · refine dw_g rfl ?_
        refine dg_s (pc' := 187) [.int (1 : Int32)] rfl (fun _ => rfl) rfl ?_
        refine dw_s (pc' := 191) [.int (1 : Int32)] rfl (fun _ => rfl) ?_
        exact dw_j rfl (fun lv1 hv => k_X10_layLevels_b191 (Φ := (fun t => Φ t)) x0 x1 x4 x5 x6 x7 s0 (1 : Int32) m (fun _a _b => kR _a _b) k80 k68 k57 (hv.1 _ rfl) (hv.2.1 _ rfl) (hv.2.2.1 _ rfl) (hv.2.2.2.1 _ rfl) (hv.2.2.2.2.1 _ rfl) (hv.2.2.2.2.2.1 _ rfl) (hv.2.2.2.2.2.2.1 _ rfl))
noncomputable def d_X10_layLevels_l80b (x0 : Nat) (x1 : Int32) (x5 : Int32) (x3 : Int32) (x4 : Int32) (x6 : Int32) (m : dc_M) : Option ((Int32 × Int32 × Int32 × dc_M) ⊕ ((Int32 × Int32 × Int32 × dc_M) ⊕ ((Int32 × Int32 × dc_M) ⊕ (Int32 × dc_M)))) :=
  (if (Int32.toInt (m.1 x0 3)) ≤ (Int32.toInt x6) then some (Sum.inr (Sum.inl (x3, x4, (x5 + (1 : Int32)), m))) else (if (Int32.toInt (m.1 (x0 + 20) (Int32.toNatClampNeg x5))) = 0 then some (Sum.inr (Sum.inl (x3, x4, (x5 + (1 : Int32)), m))) else (if (Int32.toInt (m.1 (x0 + 18) (Int32.toNatClampNeg (((16 : Int32) * x5) + x6)))) = (-4) then some (Sum.inl (x3, x4, (x6 + (1 : Int32)), m)) else (if ¬ (Int32.toInt (m.1 (x0 + 3) (Int32.toNatClampNeg x6))) = (Int32.toInt x1) then (d_X10_layLevels_b157 x0 x1 x3 x4 x5 x6 (m.1 (x0 + 18) (Int32.toNatClampNeg (((16 : Int32) * x5) + x6))) (((m.1 (x0 + 19) (Int32.toNatClampNeg x5)) >>> (x1 &&& 31)) &&& (1 : Int32)) (((m.1 (x0 + 19) (Int32.toNatClampNeg x5)) >>> (x1 &&& 31)) &&& (1 : Int32)) m) else (d_X10_layLevels_b157 x0 x1 x3 x4 x5 x6 (m.1 (x0 + 18) (Int32.toNatClampNeg (((16 : Int32) * x5) + x6))) (((m.1 (x0 + 19) (Int32.toNatClampNeg x5)) >>> (x1 &&& 31)) &&& (1 : Int32)) (m.1 (x0 + 4) (Int32.toNatClampNeg x6)) m)))))
noncomputable def d_X10_layLevels_l80s (x0 : Nat) (x1 : Int32) (x5 : Int32) : (Int32 × Int32 × Int32 × dc_M) → Option ((Int32 × Int32 × Int32 × dc_M) ⊕ ((Int32 × Int32 × Int32 × dc_M) ⊕ ((Int32 × Int32 × dc_M) ⊕ (Int32 × dc_M)))) := fun s => d_X10_layLevels_l80b x0 x1 x5 s.1 s.2.1 s.2.2.1 s.2.2.2
noncomputable def d_X10_layLevels_l80 (x0 : Nat) (x1 : Int32) (x5 : Int32) (x3 : Int32) (x4 : Int32) (x6 : Int32) (m : dc_M) : Option ((Int32 × Int32 × Int32 × dc_M) ⊕ ((Int32 × Int32 × dc_M) ⊕ (Int32 × dc_M))) := dc_lp (d_X10_layLevels_l80s x0 x1 x5) (x3, x4, x6, m)
set_option maxHeartbeats 8000000 in
theorem k_X10_layLevels_l80 {u : Nat} {Φ : (Option ((Int32 × Int32 × Int32 × dc_M) ⊕ ((Int32 × Int32 × dc_M) ⊕ (Int32 × dc_M)))) → Option Value → dc_M → Prop} (x0 : Nat) (x1 : Int32) (x5 : Int32) (kR : ∀ (v : Int32) (m : dc_M), Φ (some (Sum.inr (Sum.inr ((v, m))))) (some (.int v)) m) : ∀ (N : Nat), (∀ (x3 : Int32) (x4 : Int32) (x5 : Int32) (m : dc_M) (lv : ab_L), ab_lk lv 0 = some (.ref x0) → ab_lk lv 1 = some (.int x1) → ab_lk lv 3 = some (.int x3) → ab_lk lv 4 = some (.int x4) → ab_lk lv 5 = some (.int x5) →  dc_pv u N ab_M_X10_layLevels 68 lv [] m (Φ (some (Sum.inl (x3, x4, x5, m))))) → (∀ (x3 : Int32) (x4 : Int32) (m : dc_M) (lv : ab_L), ab_lk lv 0 = some (.ref x0) → ab_lk lv 1 = some (.int x1) → ab_lk lv 3 = some (.int x3) → ab_lk lv 4 = some (.int x4) →  dc_pv u N ab_M_X10_layLevels 57 lv [] m (Φ (some (Sum.inr (Sum.inl (x3, x4, m)))))) → ∀ (x3 : Int32) (x4 : Int32) (x6 : Int32) (m : dc_M) (lv : ab_L), ab_lk lv 0 = some (.ref x0) → ab_lk lv 1 = some (.int x1) → ab_lk lv 3 = some (.int x3) → ab_lk lv 4 = some (.int x4) → ab_lk lv 5 = some (.int x5) → ab_lk lv 6 = some (.int x6) → dc_pv u N ab_M_X10_layLevels 80 lv [] m (Φ (d_X10_layLevels_l80 x0 x1 x5 x3 x4 x6 m)) := by
  intro N
  induction N with
  | zero => intros; exact dc_pv_zero
  | succ N ih =>
    intro k68 k57 x3 x4 x6 m lv f0 f1 f3 f4 f5 f6
    have k68 := fun a0 a1 a2 a3 a4 a5 a6 a7 a8 a9 => (k68 a0 a1 a2 a3 a4 a5 a6 a7 a8 a9).mono (Nat.le_succ N)
    have k57 := fun a0 a1 a2 a3 a4 a5 a6 a7 => (k57 a0 a1 a2 a3 a4 a5 a6 a7).mono (Nat.le_succ N)
    have ih := ih k68 k57
    refine dc_ok (C := C_X10_layLevels) (S := S_X10_layLevels) CO_X10_layLevels 400 80 [(0, .ref x0), (1, .int x1), (3, .int x3), (4, .int x4), (5, .int x5), (6, .int x6)] lv [] m (dc_sub_cons f0 (dc_sub_cons f1 (dc_sub_cons f3 (dc_sub_cons f4 (dc_sub_cons f5 (dc_sub_cons f6 (dc_sub_nil))))))) ?_
    unfold d_X10_layLevels_l80
    rw [dc_lp_eq]
    show (fun t x => dc_lf u N ab_M_X10_layLevels (Φ (Option.bind t (dc_bk (d_X10_layLevels_l80s x0 x1 x5)))) x) (d_X10_layLevels_l80b x0 x1 x5 x3 x4 x6 m) _
    dsimp only
    unfold d_X10_layLevels_l80b
    refine dg_s (pc' := 82) [.int x6] rfl (fun _ => rfl) rfl ?_
    refine dg_s (pc' := 83) [.ref x0, .int x6] rfl (fun _ => rfl) rfl ?_
    refine dg_s (pc' := 86) [.int (m.1 x0 3), .int x6] rfl (fun _ => rfl) rfl ?_
    refine dw_if (fun t => Φ (Option.bind t (dc_bk (d_X10_layLevels_l80s x0 x1 x5)))) ((Int32.toInt (m.1 x0 3)) ≤ (Int32.toInt x6)) [] 273 89 rfl (fun _ => rfl) (fun c0 => ?_) (fun c0 => ?_)
    · refine dw_g rfl ?_
      refine dg_L (pc' := 276) [(5, .int (x5 + (1 : Int32))), (0, .ref x0), (1, .int x1), (3, .int x3), (4, .int x4), (6, .int x6)] [] rfl (fun _ => rfl) rfl ?_
      refine dw_s (pc' := 68) [] rfl (fun _ => rfl) ?_
      exact dw_j rfl (fun lv1 hv => k68 x3 x4 (x5 + (1 : Int32)) m lv1 (hv.1 _ rfl) (hv.2.1 _ rfl) (hv.2.2.1 _ rfl) (hv.2.2.2.1 _ rfl) (hv.2.2.2.2.1 _ rfl))
    · refine dw_g rfl ?_
      refine dg_s (pc' := 90) [.ref x0] rfl (fun _ => rfl) rfl ?_
      refine dg_s (pc' := 93) [.ref (x0 + 20)] rfl (fun _ => rfl) rfl ?_
      refine dg_s (pc' := 95) [.int x5, .ref (x0 + 20)] rfl (fun _ => rfl) rfl ?_
      refine dg_s (pc' := 96) [.int (m.1 (x0 + 20) (Int32.toNatClampNeg x5))] rfl (fun _ => rfl) rfl ?_
      refine dw_if (fun t => Φ (Option.bind t (dc_bk (d_X10_layLevels_l80s x0 x1 x5)))) ((Int32.toInt (m.1 (x0 + 20) (Int32.toNatClampNeg x5))) = 0) [] 273 99 rfl (fun _ => rfl) (fun c1 => ?_) (fun c1 => ?_)
      · refine dw_g rfl ?_
        refine dg_L (pc' := 276) [(5, .int (x5 + (1 : Int32))), (0, .ref x0), (1, .int x1), (3, .int x3), (4, .int x4), (6, .int x6)] [] rfl (fun _ => rfl) rfl ?_
        refine dw_s (pc' := 68) [] rfl (fun _ => rfl) ?_
        exact dw_j rfl (fun lv1 hv => k68 x3 x4 (x5 + (1 : Int32)) m lv1 (hv.1 _ rfl) (hv.2.1 _ rfl) (hv.2.2.1 _ rfl) (hv.2.2.2.1 _ rfl) (hv.2.2.2.2.1 _ rfl))
      · refine dw_g rfl ?_
        refine dg_s (pc' := 100) [.ref x0] rfl (fun _ => rfl) rfl ?_
        refine dg_s (pc' := 103) [.ref (x0 + 18)] rfl (fun _ => rfl) rfl ?_
        refine dg_s (pc' := 105) [.int (16 : Int32), .ref (x0 + 18)] rfl (fun _ => rfl) rfl ?_
        refine dg_s (pc' := 107) [.int x5, .int (16 : Int32), .ref (x0 + 18)] rfl (fun _ => rfl) rfl ?_
        refine dg_s (pc' := 108) [.int ((16 : Int32) * x5), .ref (x0 + 18)] rfl (fun _ => rfl) rfl ?_
        refine dg_s (pc' := 110) [.int x6, .int ((16 : Int32) * x5), .ref (x0 + 18)] rfl (fun _ => rfl) rfl ?_
        refine dg_s (pc' := 111) [.int (((16 : Int32) * x5) + x6), .ref (x0 + 18)] rfl (fun _ => rfl) rfl ?_
        refine dg_s (pc' := 112) [.int (m.1 (x0 + 18) (Int32.toNatClampNeg (((16 : Int32) * x5) + x6)))] rfl (fun _ => rfl) rfl ?_
        refine dg_L (pc' := 114) [(7, .int (m.1 (x0 + 18) (Int32.toNatClampNeg (((16 : Int32) * x5) + x6)))), (0, .ref x0), (1, .int x1), (3, .int x3), (4, .int x4), (5, .int x5), (6, .int x6)] [] rfl (fun _ => rfl) rfl ?_
        refine dg_s (pc' := 116) [.int (m.1 (x0 + 18) (Int32.toNatClampNeg (((16 : Int32) * x5) + x6)))] rfl (fun _ => rfl) rfl ?_
        refine dg_s (pc' := 118) [.int (-4 : Int32), .int (m.1 (x0 + 18) (Int32.toNatClampNeg (((16 : Int32) * x5) + x6)))] rfl (fun _ => rfl) rfl ?_
        refine dw_if (fun t => Φ (Option.bind t (dc_bk (d_X10_layLevels_l80s x0 x1 x5)))) ((Int32.toInt (m.1 (x0 + 18) (Int32.toNatClampNeg (((16 : Int32) * x5) + x6)))) = (-4)) [] 267 121 rfl (fun _ => rfl) (fun c2 => ?_) (fun c2 => ?_)
        · refine dw_g rfl ?_
          refine dg_L (pc' := 270) [(6, .int (x6 + (1 : Int32))), (7, .int (m.1 (x0 + 18) (Int32.toNatClampNeg (((16 : Int32) * x5) + x6)))), (0, .ref x0), (1, .int x1), (3, .int x3), (4, .int x4), (5, .int x5)] [] rfl (fun _ => rfl) rfl ?_
          refine dw_s (pc' := 80) [] rfl (fun _ => rfl) ?_
          exact dw_j rfl (fun lv1 hv => ih x3 x4 (x6 + (1 : Int32)) m lv1 (hv.1 _ rfl) (hv.2.1 _ rfl) (hv.2.2.1 _ rfl) (hv.2.2.2.1 _ rfl) (hv.2.2.2.2.1 _ rfl) (hv.2.2.2.2.2.1 _ rfl))
        · refine dw_g rfl ?_
          refine dg_s (pc' := 122) [.ref x0] rfl (fun _ => rfl) rfl ?_
          refine dg_s (pc' := 125) [.ref (x0 + 19)] rfl (fun _ => rfl) rfl ?_
          refine dg_s (pc' := 127) [.int x5, .ref (x0 + 19)] rfl (fun _ => rfl) rfl ?_
          refine dg_s (pc' := 128) [.int (m.1 (x0 + 19) (Int32.toNatClampNeg x5))] rfl (fun _ => rfl) rfl ?_
          refine dg_s (pc' := 129) [.int x1, .int (m.1 (x0 + 19) (Int32.toNatClampNeg x5))] rfl (fun _ => rfl) rfl ?_
          refine dg_s (pc' := 130) [.int ((m.1 (x0 + 19) (Int32.toNatClampNeg x5)) >>> (x1 &&& 31))] rfl (fun _ => rfl) rfl ?_
          refine dg_s (pc' := 131) [.int (1 : Int32), .int ((m.1 (x0 + 19) (Int32.toNatClampNeg x5)) >>> (x1 &&& 31))] rfl (fun _ => rfl) rfl ?_
          refine dg_s (pc' := 132) [.int (((m.1 (x0 + 19) (Int32.toNatClampNeg x5)) >>> (x1 &&& 31)) &&& (1 : Int32))] rfl (fun _ => rfl) rfl ?_
          refine dg_L (pc' := 134) [(8, .int (((m.1 (x0 + 19) (Int32.toNatClampNeg x5)) >>> (x1 &&& 31)) &&& (1 : Int32))), (7, .int (m.1 (x0 + 18) (Int32.toNatClampNeg (((16 : Int32) * x5) + x6)))), (0, .ref x0), (1, .int x1), (3, .int x3), (4, .int x4), (5, .int x5), (6, .int x6)] [] rfl (fun _ => rfl) rfl ?_
          refine dg_s (pc' := 135) [.ref x0] rfl (fun _ => rfl) rfl ?_
          refine dg_s (pc' := 138) [.ref (x0 + 3)] rfl (fun _ => rfl) rfl ?_
          refine dg_s (pc' := 140) [.int x6, .ref (x0 + 3)] rfl (fun _ => rfl) rfl ?_
          refine dg_s (pc' := 141) [.int (m.1 (x0 + 3) (Int32.toNatClampNeg x6))] rfl (fun _ => rfl) rfl ?_
          refine dg_s (pc' := 142) [.int x1, .int (m.1 (x0 + 3) (Int32.toNatClampNeg x6))] rfl (fun _ => rfl) rfl ?_
          refine dw_if (fun t => Φ (Option.bind t (dc_bk (d_X10_layLevels_l80s x0 x1 x5)))) (¬ (Int32.toInt (m.1 (x0 + 3) (Int32.toNatClampNeg x6))) = (Int32.toInt x1)) [] 155 145 rfl (fun _ => rfl) (fun c3 => ?_) (fun c3 => ?_)
          · refine dw_g rfl ?_
            refine dw_s (pc' := 157) [.int (((m.1 (x0 + 19) (Int32.toNatClampNeg x5)) >>> (x1 &&& 31)) &&& (1 : Int32))] rfl (fun _ => rfl) ?_
            exact dw_j rfl (fun lv1 hv => k_X10_layLevels_b157 (Φ := (fun t => Φ (Option.bind t (dc_bk (d_X10_layLevels_l80s x0 x1 x5))))) x0 x1 x3 x4 x5 x6 (m.1 (x0 + 18) (Int32.toNatClampNeg (((16 : Int32) * x5) + x6))) (((m.1 (x0 + 19) (Int32.toNatClampNeg x5)) >>> (x1 &&& 31)) &&& (1 : Int32)) (((m.1 (x0 + 19) (Int32.toNatClampNeg x5)) >>> (x1 &&& 31)) &&& (1 : Int32)) m (fun _a _b => kR _a _b) ih k68 k57 (hv.1 _ rfl) (hv.2.1 _ rfl) (hv.2.2.1 _ rfl) (hv.2.2.2.1 _ rfl) (hv.2.2.2.2.1 _ rfl) (hv.2.2.2.2.2.1 _ rfl) (hv.2.2.2.2.2.2.1 _ rfl) (hv.2.2.2.2.2.2.2.1 _ rfl))
          · refine dw_g rfl ?_
            refine dg_s (pc' := 146) [.ref x0] rfl (fun _ => rfl) rfl ?_
            refine dg_s (pc' := 149) [.ref (x0 + 4)] rfl (fun _ => rfl) rfl ?_
            refine dg_s (pc' := 151) [.int x6, .ref (x0 + 4)] rfl (fun _ => rfl) rfl ?_
            refine dg_s (pc' := 152) [.int (m.1 (x0 + 4) (Int32.toNatClampNeg x6))] rfl (fun _ => rfl) rfl ?_
            refine dw_s (pc' := 157) [.int (m.1 (x0 + 4) (Int32.toNatClampNeg x6))] rfl (fun _ => rfl) ?_
            exact dw_j rfl (fun lv1 hv => k_X10_layLevels_b157 (Φ := (fun t => Φ (Option.bind t (dc_bk (d_X10_layLevels_l80s x0 x1 x5))))) x0 x1 x3 x4 x5 x6 (m.1 (x0 + 18) (Int32.toNatClampNeg (((16 : Int32) * x5) + x6))) (((m.1 (x0 + 19) (Int32.toNatClampNeg x5)) >>> (x1 &&& 31)) &&& (1 : Int32)) (m.1 (x0 + 4) (Int32.toNatClampNeg x6)) m (fun _a _b => kR _a _b) ih k68 k57 (hv.1 _ rfl) (hv.2.1 _ rfl) (hv.2.2.1 _ rfl) (hv.2.2.2.1 _ rfl) (hv.2.2.2.2.1 _ rfl) (hv.2.2.2.2.2.1 _ rfl) (hv.2.2.2.2.2.2.1 _ rfl) (hv.2.2.2.2.2.2.2.1 _ rfl))
noncomputable def d_X10_layLevels_l68b (x0 : Nat) (x1 : Int32) (x3 : Int32) (x4 : Int32) (x5 : Int32) (m : dc_M) : Option ((Int32 × Int32 × Int32 × dc_M) ⊕ ((Int32 × Int32 × dc_M) ⊕ (Int32 × dc_M))) :=
  (if (Int32.toInt (m.1 x0 32)) ≤ (Int32.toInt x5) then some (Sum.inr (Sum.inl (x3, x4, m))) else (d_X10_layLevels_l80 x0 x1 x5 x3 x4 (0 : Int32) m))
noncomputable def d_X10_layLevels_l68s (x0 : Nat) (x1 : Int32) : (Int32 × Int32 × Int32 × dc_M) → Option ((Int32 × Int32 × Int32 × dc_M) ⊕ ((Int32 × Int32 × dc_M) ⊕ (Int32 × dc_M))) := fun s => d_X10_layLevels_l68b x0 x1 s.1 s.2.1 s.2.2.1 s.2.2.2
noncomputable def d_X10_layLevels_l68 (x0 : Nat) (x1 : Int32) (x3 : Int32) (x4 : Int32) (x5 : Int32) (m : dc_M) : Option ((Int32 × Int32 × dc_M) ⊕ (Int32 × dc_M)) := dc_lp (d_X10_layLevels_l68s x0 x1) (x3, x4, x5, m)
set_option maxHeartbeats 8000000 in
theorem k_X10_layLevels_l68 {u : Nat} {Φ : (Option ((Int32 × Int32 × dc_M) ⊕ (Int32 × dc_M))) → Option Value → dc_M → Prop} (x0 : Nat) (x1 : Int32) (kR : ∀ (v : Int32) (m : dc_M), Φ (some (Sum.inr ((v, m)))) (some (.int v)) m) : ∀ (N : Nat), (∀ (x3 : Int32) (x4 : Int32) (m : dc_M) (lv : ab_L), ab_lk lv 0 = some (.ref x0) → ab_lk lv 1 = some (.int x1) → ab_lk lv 3 = some (.int x3) → ab_lk lv 4 = some (.int x4) →  dc_pv u N ab_M_X10_layLevels 57 lv [] m (Φ (some (Sum.inl (x3, x4, m))))) → ∀ (x3 : Int32) (x4 : Int32) (x5 : Int32) (m : dc_M) (lv : ab_L), ab_lk lv 0 = some (.ref x0) → ab_lk lv 1 = some (.int x1) → ab_lk lv 3 = some (.int x3) → ab_lk lv 4 = some (.int x4) → ab_lk lv 5 = some (.int x5) → dc_pv u N ab_M_X10_layLevels 68 lv [] m (Φ (d_X10_layLevels_l68 x0 x1 x3 x4 x5 m)) := by
  intro N
  induction N with
  | zero => intros; exact dc_pv_zero
  | succ N ih =>
    intro k57 x3 x4 x5 m lv f0 f1 f3 f4 f5
    have k57 := fun a0 a1 a2 a3 a4 a5 a6 a7 => (k57 a0 a1 a2 a3 a4 a5 a6 a7).mono (Nat.le_succ N)
    have ih := ih k57
    refine dc_ok (C := C_X10_layLevels) (S := S_X10_layLevels) CO_X10_layLevels 400 68 [(0, .ref x0), (1, .int x1), (3, .int x3), (4, .int x4), (5, .int x5)] lv [] m (dc_sub_cons f0 (dc_sub_cons f1 (dc_sub_cons f3 (dc_sub_cons f4 (dc_sub_cons f5 (dc_sub_nil)))))) ?_
    unfold d_X10_layLevels_l68
    rw [dc_lp_eq]
    show (fun t x => dc_lf u N ab_M_X10_layLevels (Φ (Option.bind t (dc_bk (d_X10_layLevels_l68s x0 x1)))) x) (d_X10_layLevels_l68b x0 x1 x3 x4 x5 m) _
    dsimp only
    unfold d_X10_layLevels_l68b
    refine dg_s (pc' := 70) [.int x5] rfl (fun _ => rfl) rfl ?_
    refine dg_s (pc' := 71) [.ref x0, .int x5] rfl (fun _ => rfl) rfl ?_
    refine dg_s (pc' := 74) [.int (m.1 x0 32), .int x5] rfl (fun _ => rfl) rfl ?_
    refine dw_if (fun t => Φ (Option.bind t (dc_bk (d_X10_layLevels_l68s x0 x1)))) ((Int32.toInt (m.1 x0 32)) ≤ (Int32.toInt x5)) [] 279 77 rfl (fun _ => rfl) (fun c0 => ?_) (fun c0 => ?_)
    · refine dw_g rfl ?_
      refine dw_s (pc' := 57) [] rfl (fun _ => rfl) ?_
      exact dw_j rfl (fun lv1 hv => k57 x3 x4 m lv1 (hv.1 _ rfl) (hv.2.1 _ rfl) (hv.2.2.1 _ rfl) (hv.2.2.2.1 _ rfl))
    · refine dw_g rfl ?_
      refine dg_s (pc' := 78) [.int (0 : Int32)] rfl (fun _ => rfl) rfl ?_
      refine dw_L (pc' := 80) [(6, .int (0 : Int32)), (0, .ref x0), (1, .int x1), (3, .int x3), (4, .int x4), (5, .int x5)] [] rfl (fun _ => rfl) ?_
      exact dw_j rfl (fun lv1 hv => k_X10_layLevels_l80 (Φ := (fun t => Φ (Option.bind t (dc_bk (d_X10_layLevels_l68s x0 x1))))) x0 x1 x5 (fun _a _b => kR _a _b) N ih k57 x3 x4 (0 : Int32) m lv1 (hv.1 _ rfl) (hv.2.1 _ rfl) (hv.2.2.1 _ rfl) (hv.2.2.2.1 _ rfl) (hv.2.2.2.2.1 _ rfl) (hv.2.2.2.2.2.1 _ rfl))
noncomputable def d_X10_layLevels_l57b (x0 : Nat) (x1 : Int32) (x3 : Int32) (x4 : Int32) (m : dc_M) : Option ((Int32 × Int32 × dc_M) ⊕ (Int32 × dc_M)) :=
  (if (Int32.toInt x4) = 0 then some (Sum.inr ((x3, m))) else (d_X10_layLevels_l68 x0 x1 x3 (0 : Int32) (0 : Int32) m))
noncomputable def d_X10_layLevels_l57s (x0 : Nat) (x1 : Int32) : (Int32 × Int32 × dc_M) → Option ((Int32 × Int32 × dc_M) ⊕ (Int32 × dc_M)) := fun s => d_X10_layLevels_l57b x0 x1 s.1 s.2.1 s.2.2
noncomputable def d_X10_layLevels_l57 (x0 : Nat) (x1 : Int32) (x3 : Int32) (x4 : Int32) (m : dc_M) : Option (Int32 × dc_M) := dc_lp (d_X10_layLevels_l57s x0 x1) (x3, x4, m)
set_option maxHeartbeats 8000000 in
theorem k_X10_layLevels_l57 {u : Nat} {Φ : (Option (Int32 × dc_M)) → Option Value → dc_M → Prop} (x0 : Nat) (x1 : Int32) (kR : ∀ (v : Int32) (m : dc_M), Φ (some ((v, m))) (some (.int v)) m) : ∀ (N : Nat), ∀ (x3 : Int32) (x4 : Int32) (m : dc_M) (lv : ab_L), ab_lk lv 0 = some (.ref x0) → ab_lk lv 1 = some (.int x1) → ab_lk lv 3 = some (.int x3) → ab_lk lv 4 = some (.int x4) → dc_pv u N ab_M_X10_layLevels 57 lv [] m (Φ (d_X10_layLevels_l57 x0 x1 x3 x4 m)) := by
  intro N
  induction N with
  | zero => intros; exact dc_pv_zero
  | succ N ih =>
    intro x3 x4 m lv f0 f1 f3 f4
    refine dc_ok (C := C_X10_layLevels) (S := S_X10_layLevels) CO_X10_layLevels 400 57 [(0, .ref x0), (1, .int x1), (3, .int x3), (4, .int x4)] lv [] m (dc_sub_cons f0 (dc_sub_cons f1 (dc_sub_cons f3 (dc_sub_cons f4 (dc_sub_nil))))) ?_
    unfold d_X10_layLevels_l57
    rw [dc_lp_eq]
    show (fun t x => dc_lf u N ab_M_X10_layLevels (Φ (Option.bind t (dc_bk (d_X10_layLevels_l57s x0 x1)))) x) (d_X10_layLevels_l57b x0 x1 x3 x4 m) _
    dsimp only
    unfold d_X10_layLevels_l57b
    refine dg_s (pc' := 59) [.int x4] rfl (fun _ => rfl) rfl ?_
    refine dw_if (fun t => Φ (Option.bind t (dc_bk (d_X10_layLevels_l57s x0 x1)))) ((Int32.toInt x4) = 0) [] 282 62 rfl (fun _ => rfl) (fun c0 => ?_) (fun c0 => ?_)
    · refine dw_g rfl ?_
      refine dg_s (pc' := 283) [.int x3] rfl (fun _ => rfl) rfl ?_
      exact dw_r (some (.inl (some (.int x3), m))) rfl (fun _ => rfl) (kR _ _)
    · refine dw_g rfl ?_
      refine dg_s (pc' := 63) [.int (0 : Int32)] rfl (fun _ => rfl) rfl ?_
      refine dg_L (pc' := 65) [(4, .int (0 : Int32)), (0, .ref x0), (1, .int x1), (3, .int x3)] [] rfl (fun _ => rfl) rfl ?_
      refine dg_s (pc' := 66) [.int (0 : Int32)] rfl (fun _ => rfl) rfl ?_
      refine dw_L (pc' := 68) [(5, .int (0 : Int32)), (4, .int (0 : Int32)), (0, .ref x0), (1, .int x1), (3, .int x3)] [] rfl (fun _ => rfl) ?_
      exact dw_j rfl (fun lv1 hv => k_X10_layLevels_l68 (Φ := (fun t => Φ (Option.bind t (dc_bk (d_X10_layLevels_l57s x0 x1))))) x0 x1 (fun _a _b => kR _a _b) N ih x3 (0 : Int32) (0 : Int32) m lv1 (hv.1 _ rfl) (hv.2.1 _ rfl) (hv.2.2.1 _ rfl) (hv.2.2.2.1 _ rfl) (hv.2.2.2.2.1 _ rfl))
noncomputable def d_X10_layLevels_b23 (x0 : Nat) (x1 : Int32) (x2 : Int32) (m : dc_M) : Option (Int32 × dc_M) :=
  (d_X10_layLevels_l57 x0 x1 (1 : Int32) (1 : Int32) (dc_wi (dc_wi m (x0 + 20) (Int32.toNatClampNeg (0 : Int32)) (dc_nar (m.2.2.2 (x0 + 20)).1 (1 : Int32))) (x0 + 19) (Int32.toNatClampNeg (0 : Int32)) ((((dc_wi m (x0 + 20) (Int32.toNatClampNeg (0 : Int32)) (dc_nar (m.2.2.2 (x0 + 20)).1 (1 : Int32))).1 (x0 + 19) (Int32.toNatClampNeg (0 : Int32))) &&& (((1 : Int32) <<< (x1 &&& 31)) ^^^ (-1 : Int32))) ||| (x2 <<< (x1 &&& 31)))))
set_option maxHeartbeats 8000000 in
theorem k_X10_layLevels_b23 {u : Nat} {N : Nat} {Φ : (Option (Int32 × dc_M)) → Option Value → dc_M → Prop} (x0 : Nat) (x1 : Int32) (x2 : Int32) (m : dc_M) (kR : ∀ (v : Int32) (m : dc_M), Φ (some ((v, m))) (some (.int v)) m)  {lv : ab_L} (f0 : ab_lk lv 0 = some (.ref x0)) (f1 : ab_lk lv 1 = some (.int x1)) (f2 : ab_lk lv 2 = some (.int x2)) : dc_pv u N ab_M_X10_layLevels 23 lv [] m (Φ (d_X10_layLevels_b23 x0 x1 x2 m)) := by
  refine dc_pv.mono (dc_ok (C := C_X10_layLevels) (S := S_X10_layLevels) CO_X10_layLevels 400 23 [(0, .ref x0), (1, .int x1), (2, .int x2)] lv [] m (dc_sub_cons f0 (dc_sub_cons f1 (dc_sub_cons f2 (dc_sub_nil)))) ?_) (Nat.le_succ N)
  unfold d_X10_layLevels_b23
  refine dg_s (pc' := 24) [.ref x0] rfl (fun _ => rfl) rfl ?_
  refine dg_s (pc' := 27) [.ref (x0 + 20)] rfl (fun _ => rfl) rfl ?_
  refine dg_s (pc' := 28) [.int (0 : Int32), .ref (x0 + 20)] rfl (fun _ => rfl) rfl ?_
  refine dg_s (pc' := 29) [.int (1 : Int32), .int (0 : Int32), .ref (x0 + 20)] rfl (fun _ => rfl) rfl ?_
  refine dg_m (pc' := 30) (dc_wi m (x0 + 20) (Int32.toNatClampNeg (0 : Int32)) (dc_nar (m.2.2.2 (x0 + 20)).1 (1 : Int32))) [] rfl (fun _ => rfl) rfl ?_
  refine dg_s (pc' := 31) [.ref x0] rfl (fun _ => rfl) rfl ?_
  refine dg_s (pc' := 34) [.ref (x0 + 19)] rfl (fun _ => rfl) rfl ?_
  refine dg_s (pc' := 35) [.int (0 : Int32), .ref (x0 + 19)] rfl (fun _ => rfl) rfl ?_
  refine dg_s (pc' := 36) [.ref x0, .int (0 : Int32), .ref (x0 + 19)] rfl (fun _ => rfl) rfl ?_
  refine dg_s (pc' := 39) [.ref (x0 + 19), .int (0 : Int32), .ref (x0 + 19)] rfl (fun _ => rfl) rfl ?_
  refine dg_s (pc' := 40) [.int (0 : Int32), .ref (x0 + 19), .int (0 : Int32), .ref (x0 + 19)] rfl (fun _ => rfl) rfl ?_
  refine dg_s (pc' := 41) [.int ((dc_wi m (x0 + 20) (Int32.toNatClampNeg (0 : Int32)) (dc_nar (m.2.2.2 (x0 + 20)).1 (1 : Int32))).1 (x0 + 19) (Int32.toNatClampNeg (0 : Int32))), .int (0 : Int32), .ref (x0 + 19)] rfl (fun _ => rfl) rfl ?_
  refine dg_s (pc' := 42) [.int (1 : Int32), .int ((dc_wi m (x0 + 20) (Int32.toNatClampNeg (0 : Int32)) (dc_nar (m.2.2.2 (x0 + 20)).1 (1 : Int32))).1 (x0 + 19) (Int32.toNatClampNeg (0 : Int32))), .int (0 : Int32), .ref (x0 + 19)] rfl (fun _ => rfl) rfl ?_
  refine dg_s (pc' := 43) [.int x1, .int (1 : Int32), .int ((dc_wi m (x0 + 20) (Int32.toNatClampNeg (0 : Int32)) (dc_nar (m.2.2.2 (x0 + 20)).1 (1 : Int32))).1 (x0 + 19) (Int32.toNatClampNeg (0 : Int32))), .int (0 : Int32), .ref (x0 + 19)] rfl (fun _ => rfl) rfl ?_
  refine dg_s (pc' := 44) [.int ((1 : Int32) <<< (x1 &&& 31)), .int ((dc_wi m (x0 + 20) (Int32.toNatClampNeg (0 : Int32)) (dc_nar (m.2.2.2 (x0 + 20)).1 (1 : Int32))).1 (x0 + 19) (Int32.toNatClampNeg (0 : Int32))), .int (0 : Int32), .ref (x0 + 19)] rfl (fun _ => rfl) rfl ?_
  refine dg_s (pc' := 45) [.int (-1 : Int32), .int ((1 : Int32) <<< (x1 &&& 31)), .int ((dc_wi m (x0 + 20) (Int32.toNatClampNeg (0 : Int32)) (dc_nar (m.2.2.2 (x0 + 20)).1 (1 : Int32))).1 (x0 + 19) (Int32.toNatClampNeg (0 : Int32))), .int (0 : Int32), .ref (x0 + 19)] rfl (fun _ => rfl) rfl ?_
  refine dg_s (pc' := 46) [.int (((1 : Int32) <<< (x1 &&& 31)) ^^^ (-1 : Int32)), .int ((dc_wi m (x0 + 20) (Int32.toNatClampNeg (0 : Int32)) (dc_nar (m.2.2.2 (x0 + 20)).1 (1 : Int32))).1 (x0 + 19) (Int32.toNatClampNeg (0 : Int32))), .int (0 : Int32), .ref (x0 + 19)] rfl (fun _ => rfl) rfl ?_
  refine dg_s (pc' := 47) [.int (((dc_wi m (x0 + 20) (Int32.toNatClampNeg (0 : Int32)) (dc_nar (m.2.2.2 (x0 + 20)).1 (1 : Int32))).1 (x0 + 19) (Int32.toNatClampNeg (0 : Int32))) &&& (((1 : Int32) <<< (x1 &&& 31)) ^^^ (-1 : Int32))), .int (0 : Int32), .ref (x0 + 19)] rfl (fun _ => rfl) rfl ?_
  refine dg_s (pc' := 48) [.int x2, .int (((dc_wi m (x0 + 20) (Int32.toNatClampNeg (0 : Int32)) (dc_nar (m.2.2.2 (x0 + 20)).1 (1 : Int32))).1 (x0 + 19) (Int32.toNatClampNeg (0 : Int32))) &&& (((1 : Int32) <<< (x1 &&& 31)) ^^^ (-1 : Int32))), .int (0 : Int32), .ref (x0 + 19)] rfl (fun _ => rfl) rfl ?_
  refine dg_s (pc' := 49) [.int x1, .int x2, .int (((dc_wi m (x0 + 20) (Int32.toNatClampNeg (0 : Int32)) (dc_nar (m.2.2.2 (x0 + 20)).1 (1 : Int32))).1 (x0 + 19) (Int32.toNatClampNeg (0 : Int32))) &&& (((1 : Int32) <<< (x1 &&& 31)) ^^^ (-1 : Int32))), .int (0 : Int32), .ref (x0 + 19)] rfl (fun _ => rfl) rfl ?_
  refine dg_s (pc' := 50) [.int (x2 <<< (x1 &&& 31)), .int (((dc_wi m (x0 + 20) (Int32.toNatClampNeg (0 : Int32)) (dc_nar (m.2.2.2 (x0 + 20)).1 (1 : Int32))).1 (x0 + 19) (Int32.toNatClampNeg (0 : Int32))) &&& (((1 : Int32) <<< (x1 &&& 31)) ^^^ (-1 : Int32))), .int (0 : Int32), .ref (x0 + 19)] rfl (fun _ => rfl) rfl ?_
  refine dg_s (pc' := 51) [.int ((((dc_wi m (x0 + 20) (Int32.toNatClampNeg (0 : Int32)) (dc_nar (m.2.2.2 (x0 + 20)).1 (1 : Int32))).1 (x0 + 19) (Int32.toNatClampNeg (0 : Int32))) &&& (((1 : Int32) <<< (x1 &&& 31)) ^^^ (-1 : Int32))) ||| (x2 <<< (x1 &&& 31))), .int (0 : Int32), .ref (x0 + 19)] rfl (fun _ => rfl) rfl ?_
  refine dg_m (pc' := 52) (dc_wi (dc_wi m (x0 + 20) (Int32.toNatClampNeg (0 : Int32)) (dc_nar (m.2.2.2 (x0 + 20)).1 (1 : Int32))) (x0 + 19) (Int32.toNatClampNeg (0 : Int32)) ((((dc_wi m (x0 + 20) (Int32.toNatClampNeg (0 : Int32)) (dc_nar (m.2.2.2 (x0 + 20)).1 (1 : Int32))).1 (x0 + 19) (Int32.toNatClampNeg (0 : Int32))) &&& (((1 : Int32) <<< (x1 &&& 31)) ^^^ (-1 : Int32))) ||| (x2 <<< (x1 &&& 31)))) [] rfl (fun _ => rfl) rfl ?_
  refine dg_s (pc' := 53) [.int (1 : Int32)] rfl (fun _ => rfl) rfl ?_
  refine dg_L (pc' := 54) [(3, .int (1 : Int32)), (0, .ref x0), (1, .int x1), (2, .int x2)] [] rfl (fun _ => rfl) rfl ?_
  refine dg_s (pc' := 55) [.int (1 : Int32)] rfl (fun _ => rfl) rfl ?_
  refine dw_L (pc' := 57) [(4, .int (1 : Int32)), (3, .int (1 : Int32)), (0, .ref x0), (1, .int x1), (2, .int x2)] [] rfl (fun _ => rfl) ?_
  exact dw_j rfl (fun lv1 hv => k_X10_layLevels_l57 (Φ := (fun t => Φ t)) x0 x1 (fun _a _b => kR _a _b) N  (1 : Int32) (1 : Int32) (dc_wi (dc_wi m (x0 + 20) (Int32.toNatClampNeg (0 : Int32)) (dc_nar (m.2.2.2 (x0 + 20)).1 (1 : Int32))) (x0 + 19) (Int32.toNatClampNeg (0 : Int32)) ((((dc_wi m (x0 + 20) (Int32.toNatClampNeg (0 : Int32)) (dc_nar (m.2.2.2 (x0 + 20)).1 (1 : Int32))).1 (x0 + 19) (Int32.toNatClampNeg (0 : Int32))) &&& (((1 : Int32) <<< (x1 &&& 31)) ^^^ (-1 : Int32))) ||| (x2 <<< (x1 &&& 31)))) lv1 (hv.1 _ rfl) (hv.2.1 _ rfl) (hv.2.2.1 _ rfl) (hv.2.2.2.1 _ rfl))
noncomputable def d_X10_layLevels_l2b (x0 : Nat) (x1 : Int32) (x2 : Int32) (x3 : Int32) (m : dc_M) : Option ((Int32 × dc_M) ⊕ (Int32 × dc_M)) :=
  (if (Int32.toInt (m.1 x0 32)) ≤ (Int32.toInt x3) then ((d_X10_layLevels_b23 x0 x1 x2 m).map (fun z => Sum.inr (z))) else some (Sum.inl ((x3 + (1 : Int32)), (dc_wi m (x0 + 20) (Int32.toNatClampNeg x3) (dc_nar (m.2.2.2 (x0 + 20)).1 (0 : Int32))))))
noncomputable def d_X10_layLevels_l2s (x0 : Nat) (x1 : Int32) (x2 : Int32) : (Int32 × dc_M) → Option ((Int32 × dc_M) ⊕ (Int32 × dc_M)) := fun s => d_X10_layLevels_l2b x0 x1 x2 s.1 s.2
noncomputable def d_X10_layLevels_l2 (x0 : Nat) (x1 : Int32) (x2 : Int32) (x3 : Int32) (m : dc_M) : Option (Int32 × dc_M) := dc_lp (d_X10_layLevels_l2s x0 x1 x2) (x3, m)
set_option maxHeartbeats 8000000 in
theorem k_X10_layLevels_l2 {u : Nat} {Φ : (Option (Int32 × dc_M)) → Option Value → dc_M → Prop} (x0 : Nat) (x1 : Int32) (x2 : Int32) (kR : ∀ (v : Int32) (m : dc_M), Φ (some ((v, m))) (some (.int v)) m) : ∀ (N : Nat), ∀ (x3 : Int32) (m : dc_M) (lv : ab_L), ab_lk lv 0 = some (.ref x0) → ab_lk lv 1 = some (.int x1) → ab_lk lv 2 = some (.int x2) → ab_lk lv 3 = some (.int x3) → dc_pv u N ab_M_X10_layLevels 2 lv [] m (Φ (d_X10_layLevels_l2 x0 x1 x2 x3 m)) := by
  intro N
  induction N with
  | zero => intros; exact dc_pv_zero
  | succ N ih =>
    intro x3 m lv f0 f1 f2 f3
    refine dc_ok (C := C_X10_layLevels) (S := S_X10_layLevels) CO_X10_layLevels 400 2 [(0, .ref x0), (1, .int x1), (2, .int x2), (3, .int x3)] lv [] m (dc_sub_cons f0 (dc_sub_cons f1 (dc_sub_cons f2 (dc_sub_cons f3 (dc_sub_nil))))) ?_
    unfold d_X10_layLevels_l2
    rw [dc_lp_eq]
    show (fun t x => dc_lf u N ab_M_X10_layLevels (Φ (Option.bind t (dc_bk (d_X10_layLevels_l2s x0 x1 x2)))) x) (d_X10_layLevels_l2b x0 x1 x2 x3 m) _
    dsimp only
    unfold d_X10_layLevels_l2b
    refine dg_s (pc' := 3) [.int x3] rfl (fun _ => rfl) rfl ?_
    refine dg_s (pc' := 4) [.ref x0, .int x3] rfl (fun _ => rfl) rfl ?_
    refine dg_s (pc' := 7) [.int (m.1 x0 32), .int x3] rfl (fun _ => rfl) rfl ?_
    refine dw_if (fun t => Φ (Option.bind t (dc_bk (d_X10_layLevels_l2s x0 x1 x2)))) ((Int32.toInt (m.1 x0 32)) ≤ (Int32.toInt x3)) [] 23 10 rfl (fun _ => rfl) (fun c0 => ?_) (fun c0 => ?_)
    · exact dw_j rfl (fun lv1 hv => k_X10_layLevels_b23 (Φ := (fun t => Φ (Option.bind (t.map (fun z => Sum.inr (z))) (dc_bk (d_X10_layLevels_l2s x0 x1 x2))))) x0 x1 x2 m (fun _a _b => kR _a _b)  (hv.1 _ rfl) (hv.2.1 _ rfl) (hv.2.2.1 _ rfl))
    · refine dw_g rfl ?_
      refine dg_s (pc' := 11) [.ref x0] rfl (fun _ => rfl) rfl ?_
      refine dg_s (pc' := 14) [.ref (x0 + 20)] rfl (fun _ => rfl) rfl ?_
      refine dg_s (pc' := 15) [.int x3, .ref (x0 + 20)] rfl (fun _ => rfl) rfl ?_
      refine dg_s (pc' := 16) [.int (0 : Int32), .int x3, .ref (x0 + 20)] rfl (fun _ => rfl) rfl ?_
      refine dg_m (pc' := 17) (dc_wi m (x0 + 20) (Int32.toNatClampNeg x3) (dc_nar (m.2.2.2 (x0 + 20)).1 (0 : Int32))) [] rfl (fun _ => rfl) rfl ?_
      refine dg_L (pc' := 20) [(3, .int (x3 + (1 : Int32))), (0, .ref x0), (1, .int x1), (2, .int x2)] [] rfl (fun _ => rfl) rfl ?_
      refine dw_s (pc' := 2) [] rfl (fun _ => rfl) ?_
      exact dw_j rfl (fun lv1 hv => ih (x3 + (1 : Int32)) (dc_wi m (x0 + 20) (Int32.toNatClampNeg x3) (dc_nar (m.2.2.2 (x0 + 20)).1 (0 : Int32))) lv1 (hv.1 _ rfl) (hv.2.1 _ rfl) (hv.2.2.1 _ rfl) (hv.2.2.2.1 _ rfl))
noncomputable def d_X10_layLevels (x0 : Nat) (x1 : Int32) (x2 : Int32) (m : dc_M) : Option (Int32 × dc_M) :=
  (d_X10_layLevels_l2 x0 x1 x2 (0 : Int32) m)
set_option maxHeartbeats 8000000 in
theorem k_X10_layLevels {u : Nat} {N : Nat} {Φ : (Option (Int32 × dc_M)) → Option Value → dc_M → Prop} (x0 : Nat) (x1 : Int32) (x2 : Int32) (m : dc_M) (kR : ∀ (v : Int32) (m : dc_M), Φ (some ((v, m))) (some (.int v)) m)  {lv : ab_L} (f0 : ab_lk lv 0 = some (.ref x0)) (f1 : ab_lk lv 1 = some (.int x1)) (f2 : ab_lk lv 2 = some (.int x2)) : dc_pv u N ab_M_X10_layLevels 0 lv [] m (Φ (d_X10_layLevels x0 x1 x2 m)) := by
  refine dc_pv.mono (dc_ok (C := C_X10_layLevels) (S := S_X10_layLevels) CO_X10_layLevels 400 0 [(0, .ref x0), (1, .int x1), (2, .int x2)] lv [] m (dc_sub_cons f0 (dc_sub_cons f1 (dc_sub_cons f2 (dc_sub_nil)))) ?_) (Nat.le_succ N)
  unfold d_X10_layLevels
  refine dg_s (pc' := 1) [.int (0 : Int32)] rfl (fun _ => rfl) rfl ?_
  refine dw_L (pc' := 2) [(3, .int (0 : Int32)), (0, .ref x0), (1, .int x1), (2, .int x2)] [] rfl (fun _ => rfl) ?_
  exact dw_j rfl (fun lv1 hv => k_X10_layLevels_l2 (Φ := (fun t => Φ t)) x0 x1 x2 (fun _a _b => kR _a _b) N  (0 : Int32) m lv1 (hv.1 _ rfl) (hv.2.1 _ rfl) (hv.2.2.1 _ rfl) (hv.2.2.2.1 _ rfl))
noncomputable def H_X10_layLevels : dc_H := fun As m k => match As with
  | [.ref x0, .int x1, .int x2] => (d_X10_layLevels x0 x1 x2 m).bind (fun q => k (some (.int q.1)) q.2)
  | _ => dc_kz
theorem H_X10_layLevels_ok {u : Nat} : dc_cok u 174 H_X10_layLevels := fun M' hG N As m k P hz hP => by
  obtain rfl : ab_M_X10_layLevels = M' := Option.some.inj hG
  unfold H_X10_layLevels at hP
  split at hP
  · rename_i x0 x1 x2
    exact dc_pv.imp (k_X10_layLevels (Φ := fun (t : Option (Int32 × dc_M)) r m' => P (t.bind (fun q => k (some (.int q.1)) q.2)) → P (k r m')) x0 x1 x2 m (fun _ _ h => h) rfl rfl rfl) (fun r m' h => h hP)
  · exact absurd hP hz
noncomputable def C_X10_layRight : List (Nat × dc_H) := [(174, H_X10_layLevels), (173, H_X10_layStates)]
theorem CO_X10_layRight {u : Nat} : dc_CO u C_X10_layRight := dc_CO_cons H_X10_layLevels_ok (dc_CO_cons H_X10_layStates_ok (dc_CO_nil))
def S_X10_layRight : List (Nat × List Nat) := [(19, [0, 1]), (42, [0, 1])]
noncomputable def d_X10_layRight_l42b (x0 : Nat) (x1 : Int32) (m : dc_M) : Option ((Int32 × dc_M) ⊕ (Int32 × dc_M)) :=
  (if (Int32.toInt (m.1 x0 0)) ≤ (Int32.toInt x1) then some (Sum.inr (((m.1 x0 37), m))) else (if (Int32.toInt (m.1 x0 37)) = 0 then some (Sum.inr (((m.1 x0 37), m))) else ((d_X10_layLevels x0 x1 (0 : Int32) m).bind (fun q1 => (if ¬ (Int32.toInt q1.1) = 0 then some (Sum.inl ((x1 + (1 : Int32)), (dc_wi q1.2 x0 37 (1 : Int32)))) else ((d_X10_layLevels x0 x1 (1 : Int32) q1.2).bind (fun q2 => (if (Int32.toInt q2.1) = 0 then some (Sum.inl ((x1 + (1 : Int32)), (dc_wi q2.2 x0 37 (0 : Int32)))) else some (Sum.inl ((x1 + (1 : Int32)), (dc_wi q2.2 x0 37 (1 : Int32))))))))))))
noncomputable def d_X10_layRight_l42s (x0 : Nat) : (Int32 × dc_M) → Option ((Int32 × dc_M) ⊕ (Int32 × dc_M)) := fun s => d_X10_layRight_l42b x0 s.1 s.2
noncomputable def d_X10_layRight_l42 (x0 : Nat) (x1 : Int32) (m : dc_M) : Option (Int32 × dc_M) := dc_lp (d_X10_layRight_l42s x0) (x1, m)
set_option maxHeartbeats 8000000 in
theorem k_X10_layRight_l42 {u : Nat} {Φ : (Option (Int32 × dc_M)) → Option Value → dc_M → Prop} (x0 : Nat) (kR : ∀ (v : Int32) (m : dc_M), Φ (some ((v, m))) (some (.int v)) m) : ∀ (N : Nat), ∀ (x1 : Int32) (m : dc_M) (lv : ab_L), ab_lk lv 0 = some (.ref x0) → ab_lk lv 1 = some (.int x1) → dc_pv u N ab_M_X10_layRight 42 lv [] m (Φ (d_X10_layRight_l42 x0 x1 m)) := by
  intro N
  induction N with
  | zero => intros; exact dc_pv_zero
  | succ N ih =>
    intro x1 m lv f0 f1
    refine dc_ok (C := C_X10_layRight) (S := S_X10_layRight) CO_X10_layRight 400 42 [(0, .ref x0), (1, .int x1)] lv [] m (dc_sub_cons f0 (dc_sub_cons f1 (dc_sub_nil))) ?_
    unfold d_X10_layRight_l42
    rw [dc_lp_eq]
    show (fun t x => dc_lf u N ab_M_X10_layRight (Φ (Option.bind t (dc_bk (d_X10_layRight_l42s x0)))) x) (d_X10_layRight_l42b x0 x1 m) _
    dsimp only
    unfold d_X10_layRight_l42b
    refine dg_s (pc' := 43) [.int x1] rfl (fun _ => rfl) rfl ?_
    refine dg_s (pc' := 44) [.ref x0, .int x1] rfl (fun _ => rfl) rfl ?_
    refine dg_s (pc' := 47) [.int (m.1 x0 0), .int x1] rfl (fun _ => rfl) rfl ?_
    refine dw_if (fun t => Φ (Option.bind t (dc_bk (d_X10_layRight_l42s x0)))) ((Int32.toInt (m.1 x0 0)) ≤ (Int32.toInt x1)) [] 90 50 rfl (fun _ => rfl) (fun c0 => ?_) (fun c0 => ?_)
    · refine dw_g rfl ?_
      refine dg_s (pc' := 91) [.ref x0] rfl (fun _ => rfl) rfl ?_
      refine dg_s (pc' := 94) [.int (m.1 x0 37)] rfl (fun _ => rfl) rfl ?_
      exact dw_r (some (.inl (some (.int (m.1 x0 37)), m))) rfl (fun _ => rfl) (kR _ _)
    · refine dw_g rfl ?_
      refine dg_s (pc' := 51) [.ref x0] rfl (fun _ => rfl) rfl ?_
      refine dg_s (pc' := 54) [.int (m.1 x0 37)] rfl (fun _ => rfl) rfl ?_
      refine dw_if (fun t => Φ (Option.bind t (dc_bk (d_X10_layRight_l42s x0)))) ((Int32.toInt (m.1 x0 37)) = 0) [] 90 57 rfl (fun _ => rfl) (fun c1 => ?_) (fun c1 => ?_)
      · refine dw_g rfl ?_
        refine dg_s (pc' := 91) [.ref x0] rfl (fun _ => rfl) rfl ?_
        refine dg_s (pc' := 94) [.int (m.1 x0 37)] rfl (fun _ => rfl) rfl ?_
        exact dw_r (some (.inl (some (.int (m.1 x0 37)), m))) rfl (fun _ => rfl) (kR _ _)
      · refine dw_g rfl ?_
        refine dg_s (pc' := 58) [.ref x0] rfl (fun _ => rfl) rfl ?_
        refine dg_s (pc' := 59) [.ref x0, .ref x0] rfl (fun _ => rfl) rfl ?_
        refine dg_s (pc' := 60) [.int x1, .ref x0, .ref x0] rfl (fun _ => rfl) rfl ?_
        refine dg_s (pc' := 61) [.int (0 : Int32), .int x1, .ref x0, .ref x0] rfl (fun _ => rfl) rfl ?_
        refine dw_b (fun t => Φ (Option.bind t (dc_bk (d_X10_layRight_l42s x0)))) (pc' := 64) (fun q1 => [.int q1.1, .ref x0]) (fun q1 => q1.2) rfl (fun _ => rfl) (fun q1 => ?_)
        refine dw_g rfl ?_
        refine dw_if (fun t => Φ (Option.bind t (dc_bk (d_X10_layRight_l42s x0)))) (¬ (Int32.toInt q1.1) = 0) [.ref x0] 76 67 rfl (fun _ => rfl) (fun c2 => ?_) (fun c2 => ?_)
        · refine dw_g rfl ?_
          refine dg_s (pc' := 77) [.int (1 : Int32), .ref x0] rfl (fun _ => rfl) rfl ?_
          refine dg_s (pc' := 81) [.int (1 : Int32), .ref x0] rfl (fun _ => rfl) rfl ?_
          refine dg_m (pc' := 84) (dc_wi q1.2 x0 37 (1 : Int32)) [] rfl (fun _ => rfl) rfl ?_
          refine dg_L (pc' := 87) [(1, .int (x1 + (1 : Int32))), (0, .ref x0)] [] rfl (fun _ => rfl) rfl ?_
          refine dw_s (pc' := 42) [] rfl (fun _ => rfl) ?_
          exact dw_j rfl (fun lv1 hv => ih (x1 + (1 : Int32)) (dc_wi q1.2 x0 37 (1 : Int32)) lv1 (hv.1 _ rfl) (hv.2.1 _ rfl))
        · refine dw_g rfl ?_
          refine dg_s (pc' := 68) [.ref x0, .ref x0] rfl (fun _ => rfl) rfl ?_
          refine dg_s (pc' := 69) [.int x1, .ref x0, .ref x0] rfl (fun _ => rfl) rfl ?_
          refine dg_s (pc' := 70) [.int (1 : Int32), .int x1, .ref x0, .ref x0] rfl (fun _ => rfl) rfl ?_
          refine dw_b (fun t => Φ (Option.bind t (dc_bk (d_X10_layRight_l42s x0)))) (pc' := 73) (fun q2 => [.int q2.1, .ref x0]) (fun q2 => q2.2) rfl (fun _ => rfl) (fun q2 => ?_)
          refine dw_g rfl ?_
          refine dw_if (fun t => Φ (Option.bind t (dc_bk (d_X10_layRight_l42s x0)))) ((Int32.toInt q2.1) = 0) [.ref x0] 80 76 rfl (fun _ => rfl) (fun c3 => ?_) (fun c3 => ?_)
          · refine dw_g rfl ?_
            refine dg_s (pc' := 81) [.int (0 : Int32), .ref x0] rfl (fun _ => rfl) rfl ?_
            refine dg_m (pc' := 84) (dc_wi q2.2 x0 37 (0 : Int32)) [] rfl (fun _ => rfl) rfl ?_
            refine dg_L (pc' := 87) [(1, .int (x1 + (1 : Int32))), (0, .ref x0)] [] rfl (fun _ => rfl) rfl ?_
            refine dw_s (pc' := 42) [] rfl (fun _ => rfl) ?_
            exact dw_j rfl (fun lv1 hv => ih (x1 + (1 : Int32)) (dc_wi q2.2 x0 37 (0 : Int32)) lv1 (hv.1 _ rfl) (hv.2.1 _ rfl))
          · refine dw_g rfl ?_
            refine dg_s (pc' := 77) [.int (1 : Int32), .ref x0] rfl (fun _ => rfl) rfl ?_
            refine dg_s (pc' := 81) [.int (1 : Int32), .ref x0] rfl (fun _ => rfl) rfl ?_
            refine dg_m (pc' := 84) (dc_wi q2.2 x0 37 (1 : Int32)) [] rfl (fun _ => rfl) rfl ?_
            refine dg_L (pc' := 87) [(1, .int (x1 + (1 : Int32))), (0, .ref x0)] [] rfl (fun _ => rfl) rfl ?_
            refine dw_s (pc' := 42) [] rfl (fun _ => rfl) ?_
            exact dw_j rfl (fun lv1 hv => ih (x1 + (1 : Int32)) (dc_wi q2.2 x0 37 (1 : Int32)) lv1 (hv.1 _ rfl) (hv.2.1 _ rfl))
noncomputable def d_X10_layRight_l19b (x0 : Nat) (x1 : Int32) (m : dc_M) : Option ((Int32 × dc_M) ⊕ (Int32 × dc_M)) :=
  (if (Int32.toInt (m.1 x0 32)) ≤ (Int32.toInt x1) then ((d_X10_layRight_l42 x0 (0 : Int32) m).map (fun z => Sum.inr (z))) else some (Sum.inl ((x1 + (1 : Int32)), (dc_wi m (x0 + 19) (Int32.toNatClampNeg x1) (0 : Int32)))))
noncomputable def d_X10_layRight_l19s (x0 : Nat) : (Int32 × dc_M) → Option ((Int32 × dc_M) ⊕ (Int32 × dc_M)) := fun s => d_X10_layRight_l19b x0 s.1 s.2
noncomputable def d_X10_layRight_l19 (x0 : Nat) (x1 : Int32) (m : dc_M) : Option (Int32 × dc_M) := dc_lp (d_X10_layRight_l19s x0) (x1, m)
set_option maxHeartbeats 8000000 in
theorem k_X10_layRight_l19 {u : Nat} {Φ : (Option (Int32 × dc_M)) → Option Value → dc_M → Prop} (x0 : Nat) (kR : ∀ (v : Int32) (m : dc_M), Φ (some ((v, m))) (some (.int v)) m) : ∀ (N : Nat), ∀ (x1 : Int32) (m : dc_M) (lv : ab_L), ab_lk lv 0 = some (.ref x0) → ab_lk lv 1 = some (.int x1) → dc_pv u N ab_M_X10_layRight 19 lv [] m (Φ (d_X10_layRight_l19 x0 x1 m)) := by
  intro N
  induction N with
  | zero => intros; exact dc_pv_zero
  | succ N ih =>
    intro x1 m lv f0 f1
    refine dc_ok (C := C_X10_layRight) (S := S_X10_layRight) CO_X10_layRight 400 19 [(0, .ref x0), (1, .int x1)] lv [] m (dc_sub_cons f0 (dc_sub_cons f1 (dc_sub_nil))) ?_
    unfold d_X10_layRight_l19
    rw [dc_lp_eq]
    show (fun t x => dc_lf u N ab_M_X10_layRight (Φ (Option.bind t (dc_bk (d_X10_layRight_l19s x0)))) x) (d_X10_layRight_l19b x0 x1 m) _
    dsimp only
    unfold d_X10_layRight_l19b
    refine dg_s (pc' := 20) [.int x1] rfl (fun _ => rfl) rfl ?_
    refine dg_s (pc' := 21) [.ref x0, .int x1] rfl (fun _ => rfl) rfl ?_
    refine dg_s (pc' := 24) [.int (m.1 x0 32), .int x1] rfl (fun _ => rfl) rfl ?_
    refine dw_if (fun t => Φ (Option.bind t (dc_bk (d_X10_layRight_l19s x0)))) ((Int32.toInt (m.1 x0 32)) ≤ (Int32.toInt x1)) [] 40 27 rfl (fun _ => rfl) (fun c0 => ?_) (fun c0 => ?_)
    · refine dw_g rfl ?_
      refine dg_s (pc' := 41) [.int (0 : Int32)] rfl (fun _ => rfl) rfl ?_
      refine dw_L (pc' := 42) [(1, .int (0 : Int32)), (0, .ref x0)] [] rfl (fun _ => rfl) ?_
      exact dw_j rfl (fun lv1 hv => k_X10_layRight_l42 (Φ := (fun t => Φ (Option.bind (t.map (fun z => Sum.inr (z))) (dc_bk (d_X10_layRight_l19s x0))))) x0 (fun _a _b => kR _a _b) N  (0 : Int32) m lv1 (hv.1 _ rfl) (hv.2.1 _ rfl))
    · refine dw_g rfl ?_
      refine dg_s (pc' := 28) [.ref x0] rfl (fun _ => rfl) rfl ?_
      refine dg_s (pc' := 31) [.ref (x0 + 19)] rfl (fun _ => rfl) rfl ?_
      refine dg_s (pc' := 32) [.int x1, .ref (x0 + 19)] rfl (fun _ => rfl) rfl ?_
      refine dg_s (pc' := 33) [.int (0 : Int32), .int x1, .ref (x0 + 19)] rfl (fun _ => rfl) rfl ?_
      refine dg_m (pc' := 34) (dc_wi m (x0 + 19) (Int32.toNatClampNeg x1) (0 : Int32)) [] rfl (fun _ => rfl) rfl ?_
      refine dg_L (pc' := 37) [(1, .int (x1 + (1 : Int32))), (0, .ref x0)] [] rfl (fun _ => rfl) rfl ?_
      refine dw_s (pc' := 19) [] rfl (fun _ => rfl) ?_
      exact dw_j rfl (fun lv1 hv => ih (x1 + (1 : Int32)) (dc_wi m (x0 + 19) (Int32.toNatClampNeg x1) (0 : Int32)) lv1 (hv.1 _ rfl) (hv.2.1 _ rfl))
noncomputable def d_X10_layRight (x0 : Nat) (m : dc_M) : Option (Int32 × dc_M) :=
  ((d_X10_layStates x0 m).bind (fun q1 => (if ¬ (Int32.toInt q1.1) = 1 then (d_X10_layRight_l19 x0 (0 : Int32) (dc_wi q1.2 x0 37 (0 : Int32))) else (d_X10_layRight_l19 x0 (0 : Int32) (dc_wi q1.2 x0 37 (1 : Int32))))))
set_option maxHeartbeats 8000000 in
theorem k_X10_layRight {u : Nat} {N : Nat} {Φ : (Option (Int32 × dc_M)) → Option Value → dc_M → Prop} (x0 : Nat) (m : dc_M) (kR : ∀ (v : Int32) (m : dc_M), Φ (some ((v, m))) (some (.int v)) m)  {lv : ab_L} (f0 : ab_lk lv 0 = some (.ref x0)) : dc_pv u N ab_M_X10_layRight 0 lv [] m (Φ (d_X10_layRight x0 m)) := by
  refine dc_pv.mono (dc_ok (C := C_X10_layRight) (S := S_X10_layRight) CO_X10_layRight 400 0 [(0, .ref x0)] lv [] m (dc_sub_cons f0 (dc_sub_nil)) ?_) (Nat.le_succ N)
  unfold d_X10_layRight
  refine dg_s (pc' := 1) [.ref x0] rfl (fun _ => rfl) rfl ?_
  refine dg_s (pc' := 2) [.ref x0, .ref x0] rfl (fun _ => rfl) rfl ?_
  refine dw_b (fun t => Φ t) (pc' := 5) (fun q1 => [.int q1.1, .ref x0]) (fun q1 => q1.2) rfl (fun _ => rfl) (fun q1 => ?_)
  refine dw_g rfl ?_
  refine dg_s (pc' := 6) [.int (1 : Int32), .int q1.1, .ref x0] rfl (fun _ => rfl) rfl ?_
  refine dw_if (fun t => Φ t) (¬ (Int32.toInt q1.1) = 1) [.ref x0] 13 9 rfl (fun _ => rfl) (fun c0 => ?_) (fun c0 => ?_)
  · refine dw_g rfl ?_
    refine dg_s (pc' := 14) [.int (0 : Int32), .ref x0] rfl (fun _ => rfl) rfl ?_
    refine dg_m (pc' := 17) (dc_wi q1.2 x0 37 (0 : Int32)) [] rfl (fun _ => rfl) rfl ?_
    refine dg_s (pc' := 18) [.int (0 : Int32)] rfl (fun _ => rfl) rfl ?_
    refine dw_L (pc' := 19) [(1, .int (0 : Int32)), (0, .ref x0)] [] rfl (fun _ => rfl) ?_
    exact dw_j rfl (fun lv1 hv => k_X10_layRight_l19 (Φ := (fun t => Φ t)) x0 (fun _a _b => kR _a _b) N  (0 : Int32) (dc_wi q1.2 x0 37 (0 : Int32)) lv1 (hv.1 _ rfl) (hv.2.1 _ rfl))
  · refine dw_g rfl ?_
    refine dg_s (pc' := 10) [.int (1 : Int32), .ref x0] rfl (fun _ => rfl) rfl ?_
    refine dg_s (pc' := 14) [.int (1 : Int32), .ref x0] rfl (fun _ => rfl) rfl ?_
    refine dg_m (pc' := 17) (dc_wi q1.2 x0 37 (1 : Int32)) [] rfl (fun _ => rfl) rfl ?_
    refine dg_s (pc' := 18) [.int (0 : Int32)] rfl (fun _ => rfl) rfl ?_
    refine dw_L (pc' := 19) [(1, .int (0 : Int32)), (0, .ref x0)] [] rfl (fun _ => rfl) ?_
    exact dw_j rfl (fun lv1 hv => k_X10_layRight_l19 (Φ := (fun t => Φ t)) x0 (fun _a _b => kR _a _b) N  (0 : Int32) (dc_wi q1.2 x0 37 (1 : Int32)) lv1 (hv.1 _ rfl) (hv.2.1 _ rfl))
noncomputable def H_X10_layRight : dc_H := fun As m k => match As with
  | [.ref x0] => (d_X10_layRight x0 m).bind (fun q => k (some (.int q.1)) q.2)
  | _ => dc_kz
theorem H_X10_layRight_ok {u : Nat} : dc_cok u 175 H_X10_layRight := fun M' hG N As m k P hz hP => by
  obtain rfl : ab_M_X10_layRight = M' := Option.some.inj hG
  unfold H_X10_layRight at hP
  split at hP
  · rename_i x0
    exact dc_pv.imp (k_X10_layRight (Φ := fun (t : Option (Int32 × dc_M)) r m' => P (t.bind (fun q => k (some (.int q.1)) q.2)) → P (k r m')) x0 m (fun _ _ h => h) rfl) (fun r m' h => h hP)
  · exact absurd hP hz
noncomputable def C_X10_states : List (Nat × dc_H) := [(173, H_X10_layStates)]
theorem CO_X10_states {u : Nat} : dc_CO u C_X10_states := dc_CO_cons H_X10_layStates_ok (dc_CO_nil)
def S_X10_states : List (Nat × List Nat) := []
noncomputable def d_X10_states (x0 : Nat) (m : dc_M) : Option (Int32 × dc_M) :=
  ((d_X10_layStates x0 m).bind (fun q1 => (if ¬ (Int32.toInt q1.1) = 1 then some (((q1.2.1 x0 33), q1.2)) else some (((q1.2.1 x0 32), q1.2)))))
set_option maxHeartbeats 8000000 in
theorem k_X10_states {u : Nat} {N : Nat} {Φ : (Option (Int32 × dc_M)) → Option Value → dc_M → Prop} (x0 : Nat) (m : dc_M) (kR : ∀ (v : Int32) (m : dc_M), Φ (some ((v, m))) (some (.int v)) m)  {lv : ab_L} (f0 : ab_lk lv 0 = some (.ref x0)) : dc_pv u N ab_M_X10_states 0 lv [] m (Φ (d_X10_states x0 m)) := by
  refine dc_pv.mono (dc_ok (C := C_X10_states) (S := S_X10_states) CO_X10_states 400 0 [(0, .ref x0)] lv [] m (dc_sub_cons f0 (dc_sub_nil)) ?_) (Nat.le_succ N)
  unfold d_X10_states
  refine dg_s (pc' := 1) [.ref x0] rfl (fun _ => rfl) rfl ?_
  refine dw_b (fun t => Φ t) (pc' := 4) (fun q1 => [.int q1.1]) (fun q1 => q1.2) rfl (fun _ => rfl) (fun q1 => ?_)
  refine dw_g rfl ?_
  refine dg_s (pc' := 5) [.int (1 : Int32), .int q1.1] rfl (fun _ => rfl) rfl ?_
  refine dw_if (fun t => Φ t) (¬ (Int32.toInt q1.1) = 1) [] 15 8 rfl (fun _ => rfl) (fun c0 => ?_) (fun c0 => ?_)
  · refine dw_g rfl ?_
    refine dg_s (pc' := 16) [.ref x0] rfl (fun _ => rfl) rfl ?_
    refine dg_s (pc' := 19) [.int (q1.2.1 x0 33)] rfl (fun _ => rfl) rfl ?_
    exact dw_r (some (.inl (some (.int (q1.2.1 x0 33)), q1.2))) rfl (fun _ => rfl) (kR _ _)
  · refine dw_g rfl ?_
    refine dg_s (pc' := 9) [.ref x0] rfl (fun _ => rfl) rfl ?_
    refine dg_s (pc' := 12) [.int (q1.2.1 x0 32)] rfl (fun _ => rfl) rfl ?_
    refine dg_s (pc' := 19) [.int (q1.2.1 x0 32)] rfl (fun _ => rfl) rfl ?_
    exact dw_r (some (.inl (some (.int (q1.2.1 x0 32)), q1.2))) rfl (fun _ => rfl) (kR _ _)
noncomputable def H_X10_states : dc_H := fun As m k => match As with
  | [.ref x0] => (d_X10_states x0 m).bind (fun q => k (some (.int q.1)) q.2)
  | _ => dc_kz
theorem H_X10_states_ok {u : Nat} : dc_cok u 176 H_X10_states := fun M' hG N As m k P hz hP => by
  obtain rfl : ab_M_X10_states = M' := Option.some.inj hG
  unfold H_X10_states at hP
  split at hP
  · rename_i x0
    exact dc_pv.imp (k_X10_states (Φ := fun (t : Option (Int32 × dc_M)) r m' => P (t.bind (fun q => k (some (.int q.1)) q.2)) → P (k r m')) x0 m (fun _ _ h => h) rfl) (fun r m' h => h hP)
  · exact absurd hP hz
noncomputable def C_X10_right : List (Nat × dc_H) := [(175, H_X10_layRight)]
theorem CO_X10_right {u : Nat} : dc_CO u C_X10_right := dc_CO_cons H_X10_layRight_ok (dc_CO_nil)
def S_X10_right : List (Nat × List Nat) := []
noncomputable def d_X10_right (x0 : Nat) (m : dc_M) : Option (Int32 × dc_M) :=
  ((d_X10_layRight x0 m).bind (fun q1 => (if (Int32.toInt q1.1) = 0 then some (((0 : Int32), q1.2)) else some (((1 : Int32), q1.2)))))
set_option maxHeartbeats 8000000 in
theorem k_X10_right {u : Nat} {N : Nat} {Φ : (Option (Int32 × dc_M)) → Option Value → dc_M → Prop} (x0 : Nat) (m : dc_M) (kR : ∀ (v : Int32) (m : dc_M), Φ (some ((v, m))) (some (.int v)) m)  {lv : ab_L} (f0 : ab_lk lv 0 = some (.ref x0)) : dc_pv u N ab_M_X10_right 0 lv [] m (Φ (d_X10_right x0 m)) := by
  refine dc_pv.mono (dc_ok (C := C_X10_right) (S := S_X10_right) CO_X10_right 400 0 [(0, .ref x0)] lv [] m (dc_sub_cons f0 (dc_sub_nil)) ?_) (Nat.le_succ N)
  unfold d_X10_right
  refine dg_s (pc' := 1) [.ref x0] rfl (fun _ => rfl) rfl ?_
  refine dw_b (fun t => Φ t) (pc' := 4) (fun q1 => [.int q1.1]) (fun q1 => q1.2) rfl (fun _ => rfl) (fun q1 => ?_)
  refine dw_g rfl ?_
  refine dw_if (fun t => Φ t) ((Int32.toInt q1.1) = 0) [] 11 7 rfl (fun _ => rfl) (fun c0 => ?_) (fun c0 => ?_)
  · refine dw_g rfl ?_
    refine dg_s (pc' := 12) [.int (0 : Int32)] rfl (fun _ => rfl) rfl ?_
    exact dw_r (some (.inl (some (.int (0 : Int32)), q1.2))) rfl (fun _ => rfl) (kR _ _)
  · refine dw_g rfl ?_
    refine dg_s (pc' := 8) [.int (1 : Int32)] rfl (fun _ => rfl) rfl ?_
    refine dg_s (pc' := 12) [.int (1 : Int32)] rfl (fun _ => rfl) rfl ?_
    exact dw_r (some (.inl (some (.int (1 : Int32)), q1.2))) rfl (fun _ => rfl) (kR _ _)
noncomputable def H_X10_right : dc_H := fun As m k => match As with
  | [.ref x0] => (d_X10_right x0 m).bind (fun q => k (some (.int q.1)) q.2)
  | _ => dc_kz
theorem H_X10_right_ok {u : Nat} : dc_cok u 177 H_X10_right := fun M' hG N As m k P hz hP => by
  obtain rfl : ab_M_X10_right = M' := Option.some.inj hG
  unfold H_X10_right at hP
  split at hP
  · rename_i x0
    exact dc_pv.imp (k_X10_right (Φ := fun (t : Option (Int32 × dc_M)) r m' => P (t.bind (fun q => k (some (.int q.1)) q.2)) → P (k r m')) x0 m (fun _ _ h => h) rfl) (fun r m' h => h hP)
  · exact absurd hP hz
def C_X10_readyIn : List (Nat × dc_H) := []
theorem CO_X10_readyIn {u : Nat} : dc_CO u C_X10_readyIn := dc_CO_nil
def S_X10_readyIn : List (Nat × List Nat) := [(4, [0, 1, 2, 3])]
noncomputable def d_X10_readyIn_l4b (x0 : Nat) (x1 : Int32) (x2 : Int32) (x3 : Int32) (m : dc_M) : Option ((Int32 × Int32) ⊕ Int32) :=
  (if (Int32.toInt (m.1 x0 3)) ≤ (Int32.toInt x3) then some (Sum.inr (x2)) else (if ¬ (Int32.toInt (m.1 (x0 + 18) (Int32.toNatClampNeg (((16 : Int32) * x1) + x3)))) = (-4) then some (Sum.inl ((x2 ||| ((1 : Int32) <<< (x3 &&& 31))), (x3 + (1 : Int32)))) else some (Sum.inl ((x2 ||| (0 : Int32)), (x3 + (1 : Int32))))))
noncomputable def d_X10_readyIn_l4s (x0 : Nat) (x1 : Int32) (m : dc_M) : (Int32 × Int32) → Option ((Int32 × Int32) ⊕ Int32) := fun s => d_X10_readyIn_l4b x0 x1 s.1 s.2 m
noncomputable def d_X10_readyIn_l4 (x0 : Nat) (x1 : Int32) (x2 : Int32) (x3 : Int32) (m : dc_M) : Option Int32 := dc_lp (d_X10_readyIn_l4s x0 x1 m) (x2, x3)
set_option maxHeartbeats 8000000 in
theorem k_X10_readyIn_l4 {u : Nat} {Φ : (Option Int32) → Option Value → dc_M → Prop} (x0 : Nat) (x1 : Int32) (m : dc_M) (kR : ∀ (v : Int32), Φ (some (v)) (some (.int v)) m) : ∀ (N : Nat), ∀ (x2 : Int32) (x3 : Int32) (lv : ab_L), ab_lk lv 0 = some (.ref x0) → ab_lk lv 1 = some (.int x1) → ab_lk lv 2 = some (.int x2) → ab_lk lv 3 = some (.int x3) → dc_pv u N ab_M_X10_readyIn 4 lv [] m (Φ (d_X10_readyIn_l4 x0 x1 x2 x3 m)) := by
  intro N
  induction N with
  | zero => intros; exact dc_pv_zero
  | succ N ih =>
    intro x2 x3 lv f0 f1 f2 f3
    refine dc_ok (C := C_X10_readyIn) (S := S_X10_readyIn) CO_X10_readyIn 400 4 [(0, .ref x0), (1, .int x1), (2, .int x2), (3, .int x3)] lv [] m (dc_sub_cons f0 (dc_sub_cons f1 (dc_sub_cons f2 (dc_sub_cons f3 (dc_sub_nil))))) ?_
    unfold d_X10_readyIn_l4
    rw [dc_lp_eq]
    show (fun t x => dc_lf u N ab_M_X10_readyIn (Φ (Option.bind t (dc_bk (d_X10_readyIn_l4s x0 x1 m)))) x) (d_X10_readyIn_l4b x0 x1 x2 x3 m) _
    dsimp only
    unfold d_X10_readyIn_l4b
    refine dg_s (pc' := 5) [.int x3] rfl (fun _ => rfl) rfl ?_
    refine dg_s (pc' := 6) [.ref x0, .int x3] rfl (fun _ => rfl) rfl ?_
    refine dg_s (pc' := 9) [.int (m.1 x0 3), .int x3] rfl (fun _ => rfl) rfl ?_
    refine dw_if (fun t => Φ (Option.bind t (dc_bk (d_X10_readyIn_l4s x0 x1 m)))) ((Int32.toInt (m.1 x0 3)) ≤ (Int32.toInt x3)) [] 44 12 rfl (fun _ => rfl) (fun c0 => ?_) (fun c0 => ?_)
    · refine dw_g rfl ?_
      refine dg_s (pc' := 45) [.int x2] rfl (fun _ => rfl) rfl ?_
      exact dw_r (some (.inl (some (.int x2), m))) rfl (fun _ => rfl) (kR _)
    · refine dw_g rfl ?_
      refine dg_s (pc' := 13) [.int x2] rfl (fun _ => rfl) rfl ?_
      refine dg_s (pc' := 14) [.ref x0, .int x2] rfl (fun _ => rfl) rfl ?_
      refine dg_s (pc' := 17) [.ref (x0 + 18), .int x2] rfl (fun _ => rfl) rfl ?_
      refine dg_s (pc' := 19) [.int (16 : Int32), .ref (x0 + 18), .int x2] rfl (fun _ => rfl) rfl ?_
      refine dg_s (pc' := 20) [.int x1, .int (16 : Int32), .ref (x0 + 18), .int x2] rfl (fun _ => rfl) rfl ?_
      refine dg_s (pc' := 21) [.int ((16 : Int32) * x1), .ref (x0 + 18), .int x2] rfl (fun _ => rfl) rfl ?_
      refine dg_s (pc' := 22) [.int x3, .int ((16 : Int32) * x1), .ref (x0 + 18), .int x2] rfl (fun _ => rfl) rfl ?_
      refine dg_s (pc' := 23) [.int (((16 : Int32) * x1) + x3), .ref (x0 + 18), .int x2] rfl (fun _ => rfl) rfl ?_
      refine dg_s (pc' := 24) [.int (m.1 (x0 + 18) (Int32.toNatClampNeg (((16 : Int32) * x1) + x3))), .int x2] rfl (fun _ => rfl) rfl ?_
      refine dg_s (pc' := 26) [.int (-4 : Int32), .int (m.1 (x0 + 18) (Int32.toNatClampNeg (((16 : Int32) * x1) + x3))), .int x2] rfl (fun _ => rfl) rfl ?_
      refine dw_if (fun t => Φ (Option.bind t (dc_bk (d_X10_readyIn_l4s x0 x1 m)))) (¬ (Int32.toInt (m.1 (x0 + 18) (Int32.toNatClampNeg (((16 : Int32) * x1) + x3)))) = (-4)) [.int x2] 33 29 rfl (fun _ => rfl) (fun c1 => ?_) (fun c1 => ?_)
      · refine dw_g rfl ?_
        refine dg_s (pc' := 34) [.int (1 : Int32), .int x2] rfl (fun _ => rfl) rfl ?_
        refine dg_s (pc' := 35) [.int x3, .int (1 : Int32), .int x2] rfl (fun _ => rfl) rfl ?_
        refine dg_s (pc' := 36) [.int ((1 : Int32) <<< (x3 &&& 31)), .int x2] rfl (fun _ => rfl) rfl ?_
        refine dg_s (pc' := 37) [.int (x2 ||| ((1 : Int32) <<< (x3 &&& 31)))] rfl (fun _ => rfl) rfl ?_
        refine dg_L (pc' := 38) [(2, .int (x2 ||| ((1 : Int32) <<< (x3 &&& 31)))), (0, .ref x0), (1, .int x1), (3, .int x3)] [] rfl (fun _ => rfl) rfl ?_
        refine dg_L (pc' := 41) [(3, .int (x3 + (1 : Int32))), (2, .int (x2 ||| ((1 : Int32) <<< (x3 &&& 31)))), (0, .ref x0), (1, .int x1)] [] rfl (fun _ => rfl) rfl ?_
        refine dw_s (pc' := 4) [] rfl (fun _ => rfl) ?_
        exact dw_j rfl (fun lv1 hv => ih (x2 ||| ((1 : Int32) <<< (x3 &&& 31))) (x3 + (1 : Int32)) lv1 (hv.1 _ rfl) (hv.2.1 _ rfl) (hv.2.2.1 _ rfl) (hv.2.2.2.1 _ rfl))
      · refine dw_g rfl ?_
        refine dg_s (pc' := 30) [.int (0 : Int32), .int x2] rfl (fun _ => rfl) rfl ?_
        refine dg_s (pc' := 36) [.int (0 : Int32), .int x2] rfl (fun _ => rfl) rfl ?_
        refine dg_s (pc' := 37) [.int (x2 ||| (0 : Int32))] rfl (fun _ => rfl) rfl ?_
        refine dg_L (pc' := 38) [(2, .int (x2 ||| (0 : Int32))), (0, .ref x0), (1, .int x1), (3, .int x3)] [] rfl (fun _ => rfl) rfl ?_
        refine dg_L (pc' := 41) [(3, .int (x3 + (1 : Int32))), (2, .int (x2 ||| (0 : Int32))), (0, .ref x0), (1, .int x1)] [] rfl (fun _ => rfl) rfl ?_
        refine dw_s (pc' := 4) [] rfl (fun _ => rfl) ?_
        exact dw_j rfl (fun lv1 hv => ih (x2 ||| (0 : Int32)) (x3 + (1 : Int32)) lv1 (hv.1 _ rfl) (hv.2.1 _ rfl) (hv.2.2.1 _ rfl) (hv.2.2.2.1 _ rfl))
noncomputable def d_X10_readyIn (x0 : Nat) (x1 : Int32) (m : dc_M) : Option Int32 :=
  (d_X10_readyIn_l4 x0 x1 (0 : Int32) (0 : Int32) m)
set_option maxHeartbeats 8000000 in
theorem k_X10_readyIn {u : Nat} {N : Nat} {Φ : (Option Int32) → Option Value → dc_M → Prop} (x0 : Nat) (x1 : Int32) (m : dc_M) (kR : ∀ (v : Int32), Φ (some (v)) (some (.int v)) m)  {lv : ab_L} (f0 : ab_lk lv 0 = some (.ref x0)) (f1 : ab_lk lv 1 = some (.int x1)) : dc_pv u N ab_M_X10_readyIn 0 lv [] m (Φ (d_X10_readyIn x0 x1 m)) := by
  refine dc_pv.mono (dc_ok (C := C_X10_readyIn) (S := S_X10_readyIn) CO_X10_readyIn 400 0 [(0, .ref x0), (1, .int x1)] lv [] m (dc_sub_cons f0 (dc_sub_cons f1 (dc_sub_nil))) ?_) (Nat.le_succ N)
  unfold d_X10_readyIn
  refine dg_s (pc' := 1) [.int (0 : Int32)] rfl (fun _ => rfl) rfl ?_
  refine dg_L (pc' := 2) [(2, .int (0 : Int32)), (0, .ref x0), (1, .int x1)] [] rfl (fun _ => rfl) rfl ?_
  refine dg_s (pc' := 3) [.int (0 : Int32)] rfl (fun _ => rfl) rfl ?_
  refine dw_L (pc' := 4) [(3, .int (0 : Int32)), (2, .int (0 : Int32)), (0, .ref x0), (1, .int x1)] [] rfl (fun _ => rfl) ?_
  exact dw_j rfl (fun lv1 hv => k_X10_readyIn_l4 (Φ := (fun t => Φ t)) x0 x1 m (fun _a  => kR _a) N  (0 : Int32) (0 : Int32) lv1 (hv.1 _ rfl) (hv.2.1 _ rfl) (hv.2.2.1 _ rfl) (hv.2.2.2.1 _ rfl))
noncomputable def H_X10_readyIn : dc_H := fun As m k => match As with
  | [.ref x0, .int x1] => (d_X10_readyIn x0 x1 m).bind (fun q => k (some (.int q)) m)
  | _ => dc_kz
theorem H_X10_readyIn_ok {u : Nat} : dc_cok u 178 H_X10_readyIn := fun M' hG N As m k P hz hP => by
  obtain rfl : ab_M_X10_readyIn = M' := Option.some.inj hG
  unfold H_X10_readyIn at hP
  split at hP
  · rename_i x0 x1
    exact dc_pv.imp (k_X10_readyIn (Φ := fun (t : Option Int32) r m' => P (t.bind (fun q => k (some (.int q)) m)) → P (k r m')) x0 x1 m (fun _  h => h) rfl rfl) (fun r m' h => h hP)
  · exact absurd hP hz
def C_X10_excited : List (Nat × dc_H) := []
theorem CO_X10_excited {u : Nat} : dc_CO u C_X10_excited := dc_CO_nil
def S_X10_excited : List (Nat × List Nat) := [(4, [0, 1, 2, 3])]
noncomputable def d_X10_excited_l4b (x0 : Nat) (x1 : Int32) (x2 : Int32) (x3 : Int32) (m : dc_M) : Option ((Int32 × Int32) ⊕ Int32) :=
  (if (Int32.toInt (m.1 x0 3)) ≤ (Int32.toInt x3) then some (Sum.inr (x2)) else (if ¬ (Int32.toInt (m.1 (x0 + 18) (Int32.toNatClampNeg (((16 : Int32) * x1) + x3)))) = (-4) then some (Sum.inl ((x2 ||| ((1 : Int32) <<< ((m.1 (x0 + 3) (Int32.toNatClampNeg x3)) &&& 31))), (x3 + (1 : Int32)))) else some (Sum.inl ((x2 ||| (0 : Int32)), (x3 + (1 : Int32))))))
noncomputable def d_X10_excited_l4s (x0 : Nat) (x1 : Int32) (m : dc_M) : (Int32 × Int32) → Option ((Int32 × Int32) ⊕ Int32) := fun s => d_X10_excited_l4b x0 x1 s.1 s.2 m
noncomputable def d_X10_excited_l4 (x0 : Nat) (x1 : Int32) (x2 : Int32) (x3 : Int32) (m : dc_M) : Option Int32 := dc_lp (d_X10_excited_l4s x0 x1 m) (x2, x3)
set_option maxHeartbeats 8000000 in
theorem k_X10_excited_l4 {u : Nat} {Φ : (Option Int32) → Option Value → dc_M → Prop} (x0 : Nat) (x1 : Int32) (m : dc_M) (kR : ∀ (v : Int32), Φ (some (v)) (some (.int v)) m) : ∀ (N : Nat), ∀ (x2 : Int32) (x3 : Int32) (lv : ab_L), ab_lk lv 0 = some (.ref x0) → ab_lk lv 1 = some (.int x1) → ab_lk lv 2 = some (.int x2) → ab_lk lv 3 = some (.int x3) → dc_pv u N ab_M_X10_excited 4 lv [] m (Φ (d_X10_excited_l4 x0 x1 x2 x3 m)) := by
  intro N
  induction N with
  | zero => intros; exact dc_pv_zero
  | succ N ih =>
    intro x2 x3 lv f0 f1 f2 f3
    refine dc_ok (C := C_X10_excited) (S := S_X10_excited) CO_X10_excited 400 4 [(0, .ref x0), (1, .int x1), (2, .int x2), (3, .int x3)] lv [] m (dc_sub_cons f0 (dc_sub_cons f1 (dc_sub_cons f2 (dc_sub_cons f3 (dc_sub_nil))))) ?_
    unfold d_X10_excited_l4
    rw [dc_lp_eq]
    show (fun t x => dc_lf u N ab_M_X10_excited (Φ (Option.bind t (dc_bk (d_X10_excited_l4s x0 x1 m)))) x) (d_X10_excited_l4b x0 x1 x2 x3 m) _
    dsimp only
    unfold d_X10_excited_l4b
    refine dg_s (pc' := 5) [.int x3] rfl (fun _ => rfl) rfl ?_
    refine dg_s (pc' := 6) [.ref x0, .int x3] rfl (fun _ => rfl) rfl ?_
    refine dg_s (pc' := 9) [.int (m.1 x0 3), .int x3] rfl (fun _ => rfl) rfl ?_
    refine dw_if (fun t => Φ (Option.bind t (dc_bk (d_X10_excited_l4s x0 x1 m)))) ((Int32.toInt (m.1 x0 3)) ≤ (Int32.toInt x3)) [] 49 12 rfl (fun _ => rfl) (fun c0 => ?_) (fun c0 => ?_)
    · refine dw_g rfl ?_
      refine dg_s (pc' := 50) [.int x2] rfl (fun _ => rfl) rfl ?_
      exact dw_r (some (.inl (some (.int x2), m))) rfl (fun _ => rfl) (kR _)
    · refine dw_g rfl ?_
      refine dg_s (pc' := 13) [.int x2] rfl (fun _ => rfl) rfl ?_
      refine dg_s (pc' := 14) [.ref x0, .int x2] rfl (fun _ => rfl) rfl ?_
      refine dg_s (pc' := 17) [.ref (x0 + 18), .int x2] rfl (fun _ => rfl) rfl ?_
      refine dg_s (pc' := 19) [.int (16 : Int32), .ref (x0 + 18), .int x2] rfl (fun _ => rfl) rfl ?_
      refine dg_s (pc' := 20) [.int x1, .int (16 : Int32), .ref (x0 + 18), .int x2] rfl (fun _ => rfl) rfl ?_
      refine dg_s (pc' := 21) [.int ((16 : Int32) * x1), .ref (x0 + 18), .int x2] rfl (fun _ => rfl) rfl ?_
      refine dg_s (pc' := 22) [.int x3, .int ((16 : Int32) * x1), .ref (x0 + 18), .int x2] rfl (fun _ => rfl) rfl ?_
      refine dg_s (pc' := 23) [.int (((16 : Int32) * x1) + x3), .ref (x0 + 18), .int x2] rfl (fun _ => rfl) rfl ?_
      refine dg_s (pc' := 24) [.int (m.1 (x0 + 18) (Int32.toNatClampNeg (((16 : Int32) * x1) + x3))), .int x2] rfl (fun _ => rfl) rfl ?_
      refine dg_s (pc' := 26) [.int (-4 : Int32), .int (m.1 (x0 + 18) (Int32.toNatClampNeg (((16 : Int32) * x1) + x3))), .int x2] rfl (fun _ => rfl) rfl ?_
      refine dw_if (fun t => Φ (Option.bind t (dc_bk (d_X10_excited_l4s x0 x1 m)))) (¬ (Int32.toInt (m.1 (x0 + 18) (Int32.toNatClampNeg (((16 : Int32) * x1) + x3)))) = (-4)) [.int x2] 33 29 rfl (fun _ => rfl) (fun c1 => ?_) (fun c1 => ?_)
      · refine dw_g rfl ?_
        refine dg_s (pc' := 34) [.int (1 : Int32), .int x2] rfl (fun _ => rfl) rfl ?_
        refine dg_s (pc' := 35) [.ref x0, .int (1 : Int32), .int x2] rfl (fun _ => rfl) rfl ?_
        refine dg_s (pc' := 38) [.ref (x0 + 3), .int (1 : Int32), .int x2] rfl (fun _ => rfl) rfl ?_
        refine dg_s (pc' := 39) [.int x3, .ref (x0 + 3), .int (1 : Int32), .int x2] rfl (fun _ => rfl) rfl ?_
        refine dg_s (pc' := 40) [.int (m.1 (x0 + 3) (Int32.toNatClampNeg x3)), .int (1 : Int32), .int x2] rfl (fun _ => rfl) rfl ?_
        refine dg_s (pc' := 41) [.int ((1 : Int32) <<< ((m.1 (x0 + 3) (Int32.toNatClampNeg x3)) &&& 31)), .int x2] rfl (fun _ => rfl) rfl ?_
        refine dg_s (pc' := 42) [.int (x2 ||| ((1 : Int32) <<< ((m.1 (x0 + 3) (Int32.toNatClampNeg x3)) &&& 31)))] rfl (fun _ => rfl) rfl ?_
        refine dg_L (pc' := 43) [(2, .int (x2 ||| ((1 : Int32) <<< ((m.1 (x0 + 3) (Int32.toNatClampNeg x3)) &&& 31)))), (0, .ref x0), (1, .int x1), (3, .int x3)] [] rfl (fun _ => rfl) rfl ?_
        refine dg_L (pc' := 46) [(3, .int (x3 + (1 : Int32))), (2, .int (x2 ||| ((1 : Int32) <<< ((m.1 (x0 + 3) (Int32.toNatClampNeg x3)) &&& 31)))), (0, .ref x0), (1, .int x1)] [] rfl (fun _ => rfl) rfl ?_
        refine dw_s (pc' := 4) [] rfl (fun _ => rfl) ?_
        exact dw_j rfl (fun lv1 hv => ih (x2 ||| ((1 : Int32) <<< ((m.1 (x0 + 3) (Int32.toNatClampNeg x3)) &&& 31))) (x3 + (1 : Int32)) lv1 (hv.1 _ rfl) (hv.2.1 _ rfl) (hv.2.2.1 _ rfl) (hv.2.2.2.1 _ rfl))
      · refine dw_g rfl ?_
        refine dg_s (pc' := 30) [.int (0 : Int32), .int x2] rfl (fun _ => rfl) rfl ?_
        refine dg_s (pc' := 41) [.int (0 : Int32), .int x2] rfl (fun _ => rfl) rfl ?_
        refine dg_s (pc' := 42) [.int (x2 ||| (0 : Int32))] rfl (fun _ => rfl) rfl ?_
        refine dg_L (pc' := 43) [(2, .int (x2 ||| (0 : Int32))), (0, .ref x0), (1, .int x1), (3, .int x3)] [] rfl (fun _ => rfl) rfl ?_
        refine dg_L (pc' := 46) [(3, .int (x3 + (1 : Int32))), (2, .int (x2 ||| (0 : Int32))), (0, .ref x0), (1, .int x1)] [] rfl (fun _ => rfl) rfl ?_
        refine dw_s (pc' := 4) [] rfl (fun _ => rfl) ?_
        exact dw_j rfl (fun lv1 hv => ih (x2 ||| (0 : Int32)) (x3 + (1 : Int32)) lv1 (hv.1 _ rfl) (hv.2.1 _ rfl) (hv.2.2.1 _ rfl) (hv.2.2.2.1 _ rfl))
noncomputable def d_X10_excited (x0 : Nat) (x1 : Int32) (m : dc_M) : Option Int32 :=
  (d_X10_excited_l4 x0 x1 (0 : Int32) (0 : Int32) m)
set_option maxHeartbeats 8000000 in
theorem k_X10_excited {u : Nat} {N : Nat} {Φ : (Option Int32) → Option Value → dc_M → Prop} (x0 : Nat) (x1 : Int32) (m : dc_M) (kR : ∀ (v : Int32), Φ (some (v)) (some (.int v)) m)  {lv : ab_L} (f0 : ab_lk lv 0 = some (.ref x0)) (f1 : ab_lk lv 1 = some (.int x1)) : dc_pv u N ab_M_X10_excited 0 lv [] m (Φ (d_X10_excited x0 x1 m)) := by
  refine dc_pv.mono (dc_ok (C := C_X10_excited) (S := S_X10_excited) CO_X10_excited 400 0 [(0, .ref x0), (1, .int x1)] lv [] m (dc_sub_cons f0 (dc_sub_cons f1 (dc_sub_nil))) ?_) (Nat.le_succ N)
  unfold d_X10_excited
  refine dg_s (pc' := 1) [.int (0 : Int32)] rfl (fun _ => rfl) rfl ?_
  refine dg_L (pc' := 2) [(2, .int (0 : Int32)), (0, .ref x0), (1, .int x1)] [] rfl (fun _ => rfl) rfl ?_
  refine dg_s (pc' := 3) [.int (0 : Int32)] rfl (fun _ => rfl) rfl ?_
  refine dw_L (pc' := 4) [(3, .int (0 : Int32)), (2, .int (0 : Int32)), (0, .ref x0), (1, .int x1)] [] rfl (fun _ => rfl) ?_
  exact dw_j rfl (fun lv1 hv => k_X10_excited_l4 (Φ := (fun t => Φ t)) x0 x1 m (fun _a  => kR _a) N  (0 : Int32) (0 : Int32) lv1 (hv.1 _ rfl) (hv.2.1 _ rfl) (hv.2.2.1 _ rfl) (hv.2.2.2.1 _ rfl))
noncomputable def H_X10_excited : dc_H := fun As m k => match As with
  | [.ref x0, .int x1] => (d_X10_excited x0 x1 m).bind (fun q => k (some (.int q)) m)
  | _ => dc_kz
theorem H_X10_excited_ok {u : Nat} : dc_cok u 179 H_X10_excited := fun M' hG N As m k P hz hP => by
  obtain rfl : ab_M_X10_excited = M' := Option.some.inj hG
  unfold H_X10_excited at hP
  split at hP
  · rename_i x0 x1
    exact dc_pv.imp (k_X10_excited (Φ := fun (t : Option Int32) r m' => P (t.bind (fun q => k (some (.int q)) m)) → P (k r m')) x0 x1 m (fun _  h => h) rfl rfl) (fun r m' h => h hP)
  · exact absurd hP hz
noncomputable def C_X10_aims : List (Nat × dc_H) := [(179, H_X10_excited)]
theorem CO_X10_aims {u : Nat} : dc_CO u C_X10_aims := dc_CO_cons H_X10_excited_ok (dc_CO_nil)
def S_X10_aims : List (Nat × List Nat) := []
noncomputable def d_X10_aims (x0 : Nat) (x1 : Int32) (m : dc_M) : Option Int32 :=
  ((d_X10_excited x0 x1 m).bind (fun q1 => some (((m.1 (x0 + 19) (Int32.toNatClampNeg x1)) ^^^ q1))))
set_option maxHeartbeats 8000000 in
theorem k_X10_aims {u : Nat} {N : Nat} {Φ : (Option Int32) → Option Value → dc_M → Prop} (x0 : Nat) (x1 : Int32) (m : dc_M) (kR : ∀ (v : Int32), Φ (some (v)) (some (.int v)) m)  {lv : ab_L} (f0 : ab_lk lv 0 = some (.ref x0)) (f1 : ab_lk lv 1 = some (.int x1)) : dc_pv u N ab_M_X10_aims 0 lv [] m (Φ (d_X10_aims x0 x1 m)) := by
  refine dc_pv.mono (dc_ok (C := C_X10_aims) (S := S_X10_aims) CO_X10_aims 400 0 [(0, .ref x0), (1, .int x1)] lv [] m (dc_sub_cons f0 (dc_sub_cons f1 (dc_sub_nil))) ?_) (Nat.le_succ N)
  unfold d_X10_aims
  refine dg_s (pc' := 1) [.ref x0] rfl (fun _ => rfl) rfl ?_
  refine dg_s (pc' := 4) [.ref (x0 + 19)] rfl (fun _ => rfl) rfl ?_
  refine dg_s (pc' := 5) [.int x1, .ref (x0 + 19)] rfl (fun _ => rfl) rfl ?_
  refine dg_s (pc' := 6) [.int (m.1 (x0 + 19) (Int32.toNatClampNeg x1))] rfl (fun _ => rfl) rfl ?_
  refine dg_s (pc' := 7) [.ref x0, .int (m.1 (x0 + 19) (Int32.toNatClampNeg x1))] rfl (fun _ => rfl) rfl ?_
  refine dg_s (pc' := 8) [.int x1, .ref x0, .int (m.1 (x0 + 19) (Int32.toNatClampNeg x1))] rfl (fun _ => rfl) rfl ?_
  refine dw_b (fun t => Φ t) (pc' := 11) (fun q1 => [.int q1, .int (m.1 (x0 + 19) (Int32.toNatClampNeg x1))]) (fun q1 => m) rfl (fun _ => rfl) (fun q1 => ?_)
  refine dw_g rfl ?_
  refine dg_s (pc' := 12) [.int ((m.1 (x0 + 19) (Int32.toNatClampNeg x1)) ^^^ q1)] rfl (fun _ => rfl) rfl ?_
  exact dw_r (some (.inl (some (.int ((m.1 (x0 + 19) (Int32.toNatClampNeg x1)) ^^^ q1)), m))) rfl (fun _ => rfl) (kR _)
noncomputable def H_X10_aims : dc_H := fun As m k => match As with
  | [.ref x0, .int x1] => (d_X10_aims x0 x1 m).bind (fun q => k (some (.int q)) m)
  | _ => dc_kz
theorem H_X10_aims_ok {u : Nat} : dc_cok u 180 H_X10_aims := fun M' hG N As m k P hz hP => by
  obtain rfl : ab_M_X10_aims = M' := Option.some.inj hG
  unfold H_X10_aims at hP
  split at hP
  · rename_i x0 x1
    exact dc_pv.imp (k_X10_aims (Φ := fun (t : Option Int32) r m' => P (t.bind (fun q => k (some (.int q)) m)) → P (k r m')) x0 x1 m (fun _  h => h) rfl rfl) (fun r m' h => h hP)
  · exact absurd hP hz
noncomputable def C_X10_of : List (Nat × dc_H) := [(180, H_X10_aims), (179, H_X10_excited), (146, H_X10_in), (175, H_X10_layRight), (178, H_X10_readyIn)]
theorem CO_X10_of {u : Nat} : dc_CO u C_X10_of := dc_CO_cons H_X10_aims_ok (dc_CO_cons H_X10_excited_ok (dc_CO_cons H_X10_in_ok (dc_CO_cons H_X10_layRight_ok (dc_CO_cons H_X10_readyIn_ok (dc_CO_nil)))))
def S_X10_of : List (Nat × List Nat) := [(62, [0, 1, 2]), (86, [0, 1, 2])]
noncomputable def d_X10_of_b86 (x0 : Nat) (x1 : Int32) (x2 : Int32) (m : dc_M) : Option (Int32 × dc_M) :=
  (if ¬ (Int32.toInt x2) = 0 then (if ¬ (Int32.toInt x2) = 1 then (if ¬ (Int32.toInt x2) = 2 then (if ¬ (Int32.toInt x2) = 3 then (if ¬ (Int32.toInt x2) = 4 then some (((m.1 (x0 + 18) (Int32.toNatClampNeg ((((16 : Int32) * x1) + x2) - (10 : Int32)))), m)) else ((d_X10_aims x0 x1 m).bind (fun q1 => some ((q1, m))))) else ((d_X10_excited x0 x1 m).bind (fun q2 => some ((q2, m))))) else some (((m.1 (x0 + 19) (Int32.toNatClampNeg x1)), m))) else ((d_X10_readyIn x0 x1 m).bind (fun q3 => some ((q3, m))))) else some (((m.1 (x0 + 17) (Int32.toNatClampNeg x1)), m)))
set_option maxHeartbeats 8000000 in
theorem k_X10_of_b86 {u : Nat} {N : Nat} {Φ : (Option (Int32 × dc_M)) → Option Value → dc_M → Prop} (x0 : Nat) (x1 : Int32) (x2 : Int32) (m : dc_M) (kR : ∀ (v : Int32) (m : dc_M), Φ (some ((v, m))) (some (.int v)) m)  {lv : ab_L} (f0 : ab_lk lv 0 = some (.ref x0)) (f1 : ab_lk lv 1 = some (.int x1)) (f2 : ab_lk lv 2 = some (.int x2)) : dc_pv u N ab_M_X10_of 86 lv [] m (Φ (d_X10_of_b86 x0 x1 x2 m)) := by
  refine dc_pv.mono (dc_ok (C := C_X10_of) (S := S_X10_of) CO_X10_of 400 86 [(0, .ref x0), (1, .int x1), (2, .int x2)] lv [] m (dc_sub_cons f0 (dc_sub_cons f1 (dc_sub_cons f2 (dc_sub_nil)))) ?_) (Nat.le_succ N)
  unfold d_X10_of_b86
  refine dg_s (pc' := 87) [.int x2] rfl (fun _ => rfl) rfl ?_
  refine dw_if (fun t => Φ t) (¬ (Int32.toInt x2) = 0) [] 99 90 rfl (fun _ => rfl) (fun c0 => ?_) (fun c0 => ?_)
  · refine dw_g rfl ?_
    refine dg_s (pc' := 100) [.int x2] rfl (fun _ => rfl) rfl ?_
    refine dg_s (pc' := 101) [.int (1 : Int32), .int x2] rfl (fun _ => rfl) rfl ?_
    refine dw_if (fun t => Φ t) (¬ (Int32.toInt x2) = 1) [] 112 104 rfl (fun _ => rfl) (fun c1 => ?_) (fun c1 => ?_)
    · refine dw_g rfl ?_
      refine dg_s (pc' := 113) [.int x2] rfl (fun _ => rfl) rfl ?_
      refine dg_s (pc' := 114) [.int (2 : Int32), .int x2] rfl (fun _ => rfl) rfl ?_
      refine dw_if (fun t => Φ t) (¬ (Int32.toInt x2) = 2) [] 126 117 rfl (fun _ => rfl) (fun c2 => ?_) (fun c2 => ?_)
      · refine dw_g rfl ?_
        refine dg_s (pc' := 127) [.int x2] rfl (fun _ => rfl) rfl ?_
        refine dg_s (pc' := 128) [.int (3 : Int32), .int x2] rfl (fun _ => rfl) rfl ?_
        refine dw_if (fun t => Φ t) (¬ (Int32.toInt x2) = 3) [] 139 131 rfl (fun _ => rfl) (fun c3 => ?_) (fun c3 => ?_)
        · refine dw_g rfl ?_
          refine dg_s (pc' := 140) [.int x2] rfl (fun _ => rfl) rfl ?_
          refine dg_s (pc' := 141) [.int (4 : Int32), .int x2] rfl (fun _ => rfl) rfl ?_
          refine dw_if (fun t => Φ t) (¬ (Int32.toInt x2) = 4) [] 152 144 rfl (fun _ => rfl) (fun c4 => ?_) (fun c4 => ?_)
          · refine dw_g rfl ?_
            refine dg_s (pc' := 153) [.ref x0] rfl (fun _ => rfl) rfl ?_
            refine dg_s (pc' := 156) [.ref (x0 + 18)] rfl (fun _ => rfl) rfl ?_
            refine dg_s (pc' := 158) [.int (16 : Int32), .ref (x0 + 18)] rfl (fun _ => rfl) rfl ?_
            refine dg_s (pc' := 159) [.int x1, .int (16 : Int32), .ref (x0 + 18)] rfl (fun _ => rfl) rfl ?_
            refine dg_s (pc' := 160) [.int ((16 : Int32) * x1), .ref (x0 + 18)] rfl (fun _ => rfl) rfl ?_
            refine dg_s (pc' := 161) [.int x2, .int ((16 : Int32) * x1), .ref (x0 + 18)] rfl (fun _ => rfl) rfl ?_
            refine dg_s (pc' := 162) [.int (((16 : Int32) * x1) + x2), .ref (x0 + 18)] rfl (fun _ => rfl) rfl ?_
            refine dg_s (pc' := 164) [.int (10 : Int32), .int (((16 : Int32) * x1) + x2), .ref (x0 + 18)] rfl (fun _ => rfl) rfl ?_
            refine dg_s (pc' := 165) [.int ((((16 : Int32) * x1) + x2) - (10 : Int32)), .ref (x0 + 18)] rfl (fun _ => rfl) rfl ?_
            refine dg_s (pc' := 166) [.int (m.1 (x0 + 18) (Int32.toNatClampNeg ((((16 : Int32) * x1) + x2) - (10 : Int32))))] rfl (fun _ => rfl) rfl ?_
            exact dw_r (some (.inl (some (.int (m.1 (x0 + 18) (Int32.toNatClampNeg ((((16 : Int32) * x1) + x2) - (10 : Int32))))), m))) rfl (fun _ => rfl) (kR _ _)
          · refine dw_g rfl ?_
            refine dg_s (pc' := 145) [.ref x0] rfl (fun _ => rfl) rfl ?_
            refine dg_s (pc' := 146) [.int x1, .ref x0] rfl (fun _ => rfl) rfl ?_
            refine dw_b (fun t => Φ t) (pc' := 149) (fun q1 => [.int q1]) (fun q1 => m) rfl (fun _ => rfl) (fun q1 => ?_)
            refine dw_g rfl ?_
            refine dg_s (pc' := 166) [.int q1] rfl (fun _ => rfl) rfl ?_
            exact dw_r (some (.inl (some (.int q1), m))) rfl (fun _ => rfl) (kR _ _)
        · refine dw_g rfl ?_
          refine dg_s (pc' := 132) [.ref x0] rfl (fun _ => rfl) rfl ?_
          refine dg_s (pc' := 133) [.int x1, .ref x0] rfl (fun _ => rfl) rfl ?_
          refine dw_b (fun t => Φ t) (pc' := 136) (fun q2 => [.int q2]) (fun q2 => m) rfl (fun _ => rfl) (fun q2 => ?_)
          refine dw_g rfl ?_
          refine dg_s (pc' := 166) [.int q2] rfl (fun _ => rfl) rfl ?_
          exact dw_r (some (.inl (some (.int q2), m))) rfl (fun _ => rfl) (kR _ _)
      · refine dw_g rfl ?_
        refine dg_s (pc' := 118) [.ref x0] rfl (fun _ => rfl) rfl ?_
        refine dg_s (pc' := 121) [.ref (x0 + 19)] rfl (fun _ => rfl) rfl ?_
        refine dg_s (pc' := 122) [.int x1, .ref (x0 + 19)] rfl (fun _ => rfl) rfl ?_
        refine dg_s (pc' := 123) [.int (m.1 (x0 + 19) (Int32.toNatClampNeg x1))] rfl (fun _ => rfl) rfl ?_
        refine dg_s (pc' := 166) [.int (m.1 (x0 + 19) (Int32.toNatClampNeg x1))] rfl (fun _ => rfl) rfl ?_
        exact dw_r (some (.inl (some (.int (m.1 (x0 + 19) (Int32.toNatClampNeg x1))), m))) rfl (fun _ => rfl) (kR _ _)
    · refine dw_g rfl ?_
      refine dg_s (pc' := 105) [.ref x0] rfl (fun _ => rfl) rfl ?_
      refine dg_s (pc' := 106) [.int x1, .ref x0] rfl (fun _ => rfl) rfl ?_
      refine dw_b (fun t => Φ t) (pc' := 109) (fun q3 => [.int q3]) (fun q3 => m) rfl (fun _ => rfl) (fun q3 => ?_)
      refine dw_g rfl ?_
      refine dg_s (pc' := 166) [.int q3] rfl (fun _ => rfl) rfl ?_
      exact dw_r (some (.inl (some (.int q3), m))) rfl (fun _ => rfl) (kR _ _)
  · refine dw_g rfl ?_
    refine dg_s (pc' := 91) [.ref x0] rfl (fun _ => rfl) rfl ?_
    refine dg_s (pc' := 94) [.ref (x0 + 17)] rfl (fun _ => rfl) rfl ?_
    refine dg_s (pc' := 95) [.int x1, .ref (x0 + 17)] rfl (fun _ => rfl) rfl ?_
    refine dg_s (pc' := 96) [.int (m.1 (x0 + 17) (Int32.toNatClampNeg x1))] rfl (fun _ => rfl) rfl ?_
    refine dg_s (pc' := 166) [.int (m.1 (x0 + 17) (Int32.toNatClampNeg x1))] rfl (fun _ => rfl) rfl ?_
    exact dw_r (some (.inl (some (.int (m.1 (x0 + 17) (Int32.toNatClampNeg x1))), m))) rfl (fun _ => rfl) (kR _ _)
noncomputable def d_X10_of_b62 (x0 : Nat) (x1 : Int32) (x2 : Int32) (m : dc_M) : Option (Int32 × dc_M) :=
  (if (Int32.toInt (d_X10_in (Int32.toInt64 x2) (2 : Int64) (4 : Int64) m)) = 0 then (d_X10_of_b86 x0 x1 x2 m) else (if ¬ (Int32.toInt (m.1 x0 37)) = 0 then (d_X10_of_b86 x0 x1 x2 m) else some (((-2 : Int32), m))))
set_option maxHeartbeats 8000000 in
theorem k_X10_of_b62 {u : Nat} {N : Nat} {Φ : (Option (Int32 × dc_M)) → Option Value → dc_M → Prop} (x0 : Nat) (x1 : Int32) (x2 : Int32) (m : dc_M) (kR : ∀ (v : Int32) (m : dc_M), Φ (some ((v, m))) (some (.int v)) m)  {lv : ab_L} (f0 : ab_lk lv 0 = some (.ref x0)) (f1 : ab_lk lv 1 = some (.int x1)) (f2 : ab_lk lv 2 = some (.int x2)) : dc_pv u N ab_M_X10_of 62 lv [] m (Φ (d_X10_of_b62 x0 x1 x2 m)) := by
  refine dc_pv.mono (dc_ok (C := C_X10_of) (S := S_X10_of) CO_X10_of 400 62 [(0, .ref x0), (1, .int x1), (2, .int x2)] lv [] m (dc_sub_cons f0 (dc_sub_cons f1 (dc_sub_cons f2 (dc_sub_nil)))) ?_) (Nat.le_succ N)
  unfold d_X10_of_b62
  refine dg_s (pc' := 63) [.int x2] rfl (fun _ => rfl) rfl ?_
  refine dg_s (pc' := 64) [.long (Int32.toInt64 x2)] rfl (fun _ => rfl) rfl ?_
  refine dg_s (pc' := 67) [.long (2 : Int64), .long (Int32.toInt64 x2)] rfl (fun _ => rfl) rfl ?_
  refine dg_s (pc' := 70) [.long (4 : Int64), .long (2 : Int64), .long (Int32.toInt64 x2)] rfl (fun _ => rfl) rfl ?_
  refine dg_s (pc' := 73) [.int (d_X10_in (Int32.toInt64 x2) (2 : Int64) (4 : Int64) m)] rfl (fun _ => rfl) rfl ?_
  refine dw_if (fun t => Φ t) ((Int32.toInt (d_X10_in (Int32.toInt64 x2) (2 : Int64) (4 : Int64) m)) = 0) [] 86 76 rfl (fun _ => rfl) (fun c0 => ?_) (fun c0 => ?_)
  · exact dw_j rfl (fun lv1 hv => k_X10_of_b86 (Φ := (fun t => Φ t)) x0 x1 x2 m (fun _a _b => kR _a _b)  (hv.1 _ rfl) (hv.2.1 _ rfl) (hv.2.2.1 _ rfl))
  · refine dw_g rfl ?_
    refine dg_s (pc' := 77) [.ref x0] rfl (fun _ => rfl) rfl ?_
    refine dg_s (pc' := 80) [.int (m.1 x0 37)] rfl (fun _ => rfl) rfl ?_
    refine dw_if (fun t => Φ t) (¬ (Int32.toInt (m.1 x0 37)) = 0) [] 86 83 rfl (fun _ => rfl) (fun c1 => ?_) (fun c1 => ?_)
    · exact dw_j rfl (fun lv1 hv => k_X10_of_b86 (Φ := (fun t => Φ t)) x0 x1 x2 m (fun _a _b => kR _a _b)  (hv.1 _ rfl) (hv.2.1 _ rfl) (hv.2.2.1 _ rfl))
    · refine dw_g rfl ?_
      refine dg_s (pc' := 85) [.int (-2 : Int32)] rfl (fun _ => rfl) rfl ?_
      exact dw_r (some (.inl (some (.int (-2 : Int32)), m))) rfl (fun _ => rfl) (kR _ _)
noncomputable def d_X10_of (x0 : Nat) (x1 : Int32) (x2 : Int32) (m : dc_M) : Option (Int32 × dc_M) :=
  ((d_X10_layRight x0 m).bind (fun q1 => (if ¬ (Int32.toInt (q1.2.1 x0 33)) = 1 then some (((-1 : Int32), q1.2)) else (if (Int32.toInt (d_X10_in (Int32.toInt64 x1) (0 : Int64) (Int32.toInt64 ((q1.2.1 x0 32) - (1 : Int32))) q1.2)) = 0 then some (((-1 : Int32), q1.2)) else (if ¬ (Int32.toInt (d_X10_in (Int32.toInt64 x2) (0 : Int64) (4 : Int64) q1.2)) = 0 then (d_X10_of_b62 x0 x1 x2 q1.2) else (if ¬ (Int32.toInt (d_X10_in (Int32.toInt64 x2) (10 : Int64) (Int32.toInt64 ((9 : Int32) + (q1.2.1 x0 3))) q1.2)) = 0 then (d_X10_of_b62 x0 x1 x2 q1.2) else some (((-1 : Int32), q1.2))))))))
set_option maxHeartbeats 8000000 in
theorem k_X10_of {u : Nat} {N : Nat} {Φ : (Option (Int32 × dc_M)) → Option Value → dc_M → Prop} (x0 : Nat) (x1 : Int32) (x2 : Int32) (m : dc_M) (kR : ∀ (v : Int32) (m : dc_M), Φ (some ((v, m))) (some (.int v)) m)  {lv : ab_L} (f0 : ab_lk lv 0 = some (.ref x0)) (f1 : ab_lk lv 1 = some (.int x1)) (f2 : ab_lk lv 2 = some (.int x2)) : dc_pv u N ab_M_X10_of 0 lv [] m (Φ (d_X10_of x0 x1 x2 m)) := by
  refine dc_pv.mono (dc_ok (C := C_X10_of) (S := S_X10_of) CO_X10_of 400 0 [(0, .ref x0), (1, .int x1), (2, .int x2)] lv [] m (dc_sub_cons f0 (dc_sub_cons f1 (dc_sub_cons f2 (dc_sub_nil)))) ?_) (Nat.le_succ N)
  unfold d_X10_of
  refine dg_s (pc' := 1) [.ref x0] rfl (fun _ => rfl) rfl ?_
  refine dw_b (fun t => Φ t) (pc' := 4) (fun q1 => [.int q1.1]) (fun q1 => q1.2) rfl (fun _ => rfl) (fun q1 => ?_)
  refine dw_g rfl ?_
  refine dg_s (pc' := 5) [] rfl (fun _ => rfl) rfl ?_
  refine dg_s (pc' := 6) [.ref x0] rfl (fun _ => rfl) rfl ?_
  refine dg_s (pc' := 9) [.int (q1.2.1 x0 33)] rfl (fun _ => rfl) rfl ?_
  refine dg_s (pc' := 10) [.int (1 : Int32), .int (q1.2.1 x0 33)] rfl (fun _ => rfl) rfl ?_
  refine dw_if (fun t => Φ t) (¬ (Int32.toInt (q1.2.1 x0 33)) = 1) [] 60 13 rfl (fun _ => rfl) (fun c0 => ?_) (fun c0 => ?_)
  · refine dw_g rfl ?_
    refine dg_s (pc' := 61) [.int (-1 : Int32)] rfl (fun _ => rfl) rfl ?_
    exact dw_r (some (.inl (some (.int (-1 : Int32)), q1.2))) rfl (fun _ => rfl) (kR _ _)
  · refine dw_g rfl ?_
    refine dg_s (pc' := 14) [.int x1] rfl (fun _ => rfl) rfl ?_
    refine dg_s (pc' := 15) [.long (Int32.toInt64 x1)] rfl (fun _ => rfl) rfl ?_
    refine dg_s (pc' := 16) [.long (0 : Int64), .long (Int32.toInt64 x1)] rfl (fun _ => rfl) rfl ?_
    refine dg_s (pc' := 17) [.ref x0, .long (0 : Int64), .long (Int32.toInt64 x1)] rfl (fun _ => rfl) rfl ?_
    refine dg_s (pc' := 20) [.int (q1.2.1 x0 32), .long (0 : Int64), .long (Int32.toInt64 x1)] rfl (fun _ => rfl) rfl ?_
    refine dg_s (pc' := 21) [.int (1 : Int32), .int (q1.2.1 x0 32), .long (0 : Int64), .long (Int32.toInt64 x1)] rfl (fun _ => rfl) rfl ?_
    refine dg_s (pc' := 22) [.int ((q1.2.1 x0 32) - (1 : Int32)), .long (0 : Int64), .long (Int32.toInt64 x1)] rfl (fun _ => rfl) rfl ?_
    refine dg_s (pc' := 23) [.long (Int32.toInt64 ((q1.2.1 x0 32) - (1 : Int32))), .long (0 : Int64), .long (Int32.toInt64 x1)] rfl (fun _ => rfl) rfl ?_
    refine dg_s (pc' := 26) [.int (d_X10_in (Int32.toInt64 x1) (0 : Int64) (Int32.toInt64 ((q1.2.1 x0 32) - (1 : Int32))) q1.2)] rfl (fun _ => rfl) rfl ?_
    refine dw_if (fun t => Φ t) ((Int32.toInt (d_X10_in (Int32.toInt64 x1) (0 : Int64) (Int32.toInt64 ((q1.2.1 x0 32) - (1 : Int32))) q1.2)) = 0) [] 60 29 rfl (fun _ => rfl) (fun c1 => ?_) (fun c1 => ?_)
    · refine dw_g rfl ?_
      refine dg_s (pc' := 61) [.int (-1 : Int32)] rfl (fun _ => rfl) rfl ?_
      exact dw_r (some (.inl (some (.int (-1 : Int32)), q1.2))) rfl (fun _ => rfl) (kR _ _)
    · refine dw_g rfl ?_
      refine dg_s (pc' := 30) [.int x2] rfl (fun _ => rfl) rfl ?_
      refine dg_s (pc' := 31) [.long (Int32.toInt64 x2)] rfl (fun _ => rfl) rfl ?_
      refine dg_s (pc' := 32) [.long (0 : Int64), .long (Int32.toInt64 x2)] rfl (fun _ => rfl) rfl ?_
      refine dg_s (pc' := 35) [.long (4 : Int64), .long (0 : Int64), .long (Int32.toInt64 x2)] rfl (fun _ => rfl) rfl ?_
      refine dg_s (pc' := 38) [.int (d_X10_in (Int32.toInt64 x2) (0 : Int64) (4 : Int64) q1.2)] rfl (fun _ => rfl) rfl ?_
      refine dw_if (fun t => Φ t) (¬ (Int32.toInt (d_X10_in (Int32.toInt64 x2) (0 : Int64) (4 : Int64) q1.2)) = 0) [] 62 41 rfl (fun _ => rfl) (fun c2 => ?_) (fun c2 => ?_)
      · exact dw_j rfl (fun lv1 hv => k_X10_of_b62 (Φ := (fun t => Φ t)) x0 x1 x2 q1.2 (fun _a _b => kR _a _b)  (hv.1 _ rfl) (hv.2.1 _ rfl) (hv.2.2.1 _ rfl))
      · refine dw_g rfl ?_
        refine dg_s (pc' := 42) [.int x2] rfl (fun _ => rfl) rfl ?_
        refine dg_s (pc' := 43) [.long (Int32.toInt64 x2)] rfl (fun _ => rfl) rfl ?_
        refine dg_s (pc' := 46) [.long (10 : Int64), .long (Int32.toInt64 x2)] rfl (fun _ => rfl) rfl ?_
        refine dg_s (pc' := 48) [.int (9 : Int32), .long (10 : Int64), .long (Int32.toInt64 x2)] rfl (fun _ => rfl) rfl ?_
        refine dg_s (pc' := 49) [.ref x0, .int (9 : Int32), .long (10 : Int64), .long (Int32.toInt64 x2)] rfl (fun _ => rfl) rfl ?_
        refine dg_s (pc' := 52) [.int (q1.2.1 x0 3), .int (9 : Int32), .long (10 : Int64), .long (Int32.toInt64 x2)] rfl (fun _ => rfl) rfl ?_
        refine dg_s (pc' := 53) [.int ((9 : Int32) + (q1.2.1 x0 3)), .long (10 : Int64), .long (Int32.toInt64 x2)] rfl (fun _ => rfl) rfl ?_
        refine dg_s (pc' := 54) [.long (Int32.toInt64 ((9 : Int32) + (q1.2.1 x0 3))), .long (10 : Int64), .long (Int32.toInt64 x2)] rfl (fun _ => rfl) rfl ?_
        refine dg_s (pc' := 57) [.int (d_X10_in (Int32.toInt64 x2) (10 : Int64) (Int32.toInt64 ((9 : Int32) + (q1.2.1 x0 3))) q1.2)] rfl (fun _ => rfl) rfl ?_
        refine dw_if (fun t => Φ t) (¬ (Int32.toInt (d_X10_in (Int32.toInt64 x2) (10 : Int64) (Int32.toInt64 ((9 : Int32) + (q1.2.1 x0 3))) q1.2)) = 0) [] 62 60 rfl (fun _ => rfl) (fun c3 => ?_) (fun c3 => ?_)
        · exact dw_j rfl (fun lv1 hv => k_X10_of_b62 (Φ := (fun t => Φ t)) x0 x1 x2 q1.2 (fun _a _b => kR _a _b)  (hv.1 _ rfl) (hv.2.1 _ rfl) (hv.2.2.1 _ rfl))
        · refine dw_g rfl ?_
          refine dg_s (pc' := 61) [.int (-1 : Int32)] rfl (fun _ => rfl) rfl ?_
          exact dw_r (some (.inl (some (.int (-1 : Int32)), q1.2))) rfl (fun _ => rfl) (kR _ _)
noncomputable def H_X10_of : dc_H := fun As m k => match As with
  | [.ref x0, .int x1, .int x2] => (d_X10_of x0 x1 x2 m).bind (fun q => k (some (.int q.1)) q.2)
  | _ => dc_kz
theorem H_X10_of_ok {u : Nat} : dc_cok u 181 H_X10_of := fun M' hG N As m k P hz hP => by
  obtain rfl : ab_M_X10_of = M' := Option.some.inj hG
  unfold H_X10_of at hP
  split at hP
  · rename_i x0 x1 x2
    exact dc_pv.imp (k_X10_of (Φ := fun (t : Option (Int32 × dc_M)) r m' => P (t.bind (fun q => k (some (.int q.1)) q.2)) → P (k r m')) x0 x1 x2 m (fun _ _ h => h) rfl rfl rfl) (fun r m' h => h hP)
  · exact absurd hP hz
def C_X10_ownWires : List (Nat × dc_H) := []
theorem CO_X10_ownWires {u : Nat} : dc_CO u C_X10_ownWires := dc_CO_nil
def S_X10_ownWires : List (Nat × List Nat) := [(4, [0, 1, 2])]
noncomputable def d_X10_ownWires_l4b (x0 : Nat) (x1 : Int32) (x2 : Int32) (m : dc_M) : Option ((Int32 × Int32) ⊕ Int32) :=
  (if (Int32.toInt (m.1 x0 0)) ≤ (Int32.toInt x2) then some (Sum.inr (x1)) else (if (Int32.toInt (m.1 (x0 + 2) (Int32.toNatClampNeg x2))) ≤ 0 then some (Sum.inl ((x1 ||| (0 : Int32)), (x2 + (1 : Int32)))) else some (Sum.inl ((x1 ||| ((1 : Int32) <<< (x2 &&& 31))), (x2 + (1 : Int32))))))
noncomputable def d_X10_ownWires_l4s (x0 : Nat) (m : dc_M) : (Int32 × Int32) → Option ((Int32 × Int32) ⊕ Int32) := fun s => d_X10_ownWires_l4b x0 s.1 s.2 m
noncomputable def d_X10_ownWires_l4 (x0 : Nat) (x1 : Int32) (x2 : Int32) (m : dc_M) : Option Int32 := dc_lp (d_X10_ownWires_l4s x0 m) (x1, x2)
set_option maxHeartbeats 8000000 in
theorem k_X10_ownWires_l4 {u : Nat} {Φ : (Option Int32) → Option Value → dc_M → Prop} (x0 : Nat) (m : dc_M) (kR : ∀ (v : Int32), Φ (some (v)) (some (.int v)) m) : ∀ (N : Nat), ∀ (x1 : Int32) (x2 : Int32) (lv : ab_L), ab_lk lv 0 = some (.ref x0) → ab_lk lv 1 = some (.int x1) → ab_lk lv 2 = some (.int x2) → dc_pv u N ab_M_X10_ownWires 4 lv [] m (Φ (d_X10_ownWires_l4 x0 x1 x2 m)) := by
  intro N
  induction N with
  | zero => intros; exact dc_pv_zero
  | succ N ih =>
    intro x1 x2 lv f0 f1 f2
    refine dc_ok (C := C_X10_ownWires) (S := S_X10_ownWires) CO_X10_ownWires 400 4 [(0, .ref x0), (1, .int x1), (2, .int x2)] lv [] m (dc_sub_cons f0 (dc_sub_cons f1 (dc_sub_cons f2 (dc_sub_nil)))) ?_
    unfold d_X10_ownWires_l4
    rw [dc_lp_eq]
    show (fun t x => dc_lf u N ab_M_X10_ownWires (Φ (Option.bind t (dc_bk (d_X10_ownWires_l4s x0 m)))) x) (d_X10_ownWires_l4b x0 x1 x2 m) _
    dsimp only
    unfold d_X10_ownWires_l4b
    refine dg_s (pc' := 5) [.int x2] rfl (fun _ => rfl) rfl ?_
    refine dg_s (pc' := 6) [.ref x0, .int x2] rfl (fun _ => rfl) rfl ?_
    refine dg_s (pc' := 9) [.int (m.1 x0 0), .int x2] rfl (fun _ => rfl) rfl ?_
    refine dw_if (fun t => Φ (Option.bind t (dc_bk (d_X10_ownWires_l4s x0 m)))) ((Int32.toInt (m.1 x0 0)) ≤ (Int32.toInt x2)) [] 37 12 rfl (fun _ => rfl) (fun c0 => ?_) (fun c0 => ?_)
    · refine dw_g rfl ?_
      refine dg_s (pc' := 38) [.int x1] rfl (fun _ => rfl) rfl ?_
      exact dw_r (some (.inl (some (.int x1), m))) rfl (fun _ => rfl) (kR _)
    · refine dw_g rfl ?_
      refine dg_s (pc' := 13) [.int x1] rfl (fun _ => rfl) rfl ?_
      refine dg_s (pc' := 14) [.ref x0, .int x1] rfl (fun _ => rfl) rfl ?_
      refine dg_s (pc' := 17) [.ref (x0 + 2), .int x1] rfl (fun _ => rfl) rfl ?_
      refine dg_s (pc' := 18) [.int x2, .ref (x0 + 2), .int x1] rfl (fun _ => rfl) rfl ?_
      refine dg_s (pc' := 19) [.int (m.1 (x0 + 2) (Int32.toNatClampNeg x2)), .int x1] rfl (fun _ => rfl) rfl ?_
      refine dw_if (fun t => Φ (Option.bind t (dc_bk (d_X10_ownWires_l4s x0 m)))) ((Int32.toInt (m.1 (x0 + 2) (Int32.toNatClampNeg x2))) ≤ 0) [.int x1] 28 22 rfl (fun _ => rfl) (fun c1 => ?_) (fun c1 => ?_)
      · refine dw_g rfl ?_
        refine dg_s (pc' := 29) [.int (0 : Int32), .int x1] rfl (fun _ => rfl) rfl ?_
        refine dg_s (pc' := 30) [.int (x1 ||| (0 : Int32))] rfl (fun _ => rfl) rfl ?_
        refine dg_L (pc' := 31) [(1, .int (x1 ||| (0 : Int32))), (0, .ref x0), (2, .int x2)] [] rfl (fun _ => rfl) rfl ?_
        refine dg_L (pc' := 34) [(2, .int (x2 + (1 : Int32))), (1, .int (x1 ||| (0 : Int32))), (0, .ref x0)] [] rfl (fun _ => rfl) rfl ?_
        refine dw_s (pc' := 4) [] rfl (fun _ => rfl) ?_
        exact dw_j rfl (fun lv1 hv => ih (x1 ||| (0 : Int32)) (x2 + (1 : Int32)) lv1 (hv.1 _ rfl) (hv.2.1 _ rfl) (hv.2.2.1 _ rfl))
      · refine dw_g rfl ?_
        refine dg_s (pc' := 23) [.int (1 : Int32), .int x1] rfl (fun _ => rfl) rfl ?_
        refine dg_s (pc' := 24) [.int x2, .int (1 : Int32), .int x1] rfl (fun _ => rfl) rfl ?_
        refine dg_s (pc' := 25) [.int ((1 : Int32) <<< (x2 &&& 31)), .int x1] rfl (fun _ => rfl) rfl ?_
        refine dg_s (pc' := 29) [.int ((1 : Int32) <<< (x2 &&& 31)), .int x1] rfl (fun _ => rfl) rfl ?_
        refine dg_s (pc' := 30) [.int (x1 ||| ((1 : Int32) <<< (x2 &&& 31)))] rfl (fun _ => rfl) rfl ?_
        refine dg_L (pc' := 31) [(1, .int (x1 ||| ((1 : Int32) <<< (x2 &&& 31)))), (0, .ref x0), (2, .int x2)] [] rfl (fun _ => rfl) rfl ?_
        refine dg_L (pc' := 34) [(2, .int (x2 + (1 : Int32))), (1, .int (x1 ||| ((1 : Int32) <<< (x2 &&& 31)))), (0, .ref x0)] [] rfl (fun _ => rfl) rfl ?_
        refine dw_s (pc' := 4) [] rfl (fun _ => rfl) ?_
        exact dw_j rfl (fun lv1 hv => ih (x1 ||| ((1 : Int32) <<< (x2 &&& 31))) (x2 + (1 : Int32)) lv1 (hv.1 _ rfl) (hv.2.1 _ rfl) (hv.2.2.1 _ rfl))
noncomputable def d_X10_ownWires (x0 : Nat) (m : dc_M) : Option Int32 :=
  (d_X10_ownWires_l4 x0 (0 : Int32) (0 : Int32) m)
set_option maxHeartbeats 8000000 in
theorem k_X10_ownWires {u : Nat} {N : Nat} {Φ : (Option Int32) → Option Value → dc_M → Prop} (x0 : Nat) (m : dc_M) (kR : ∀ (v : Int32), Φ (some (v)) (some (.int v)) m)  {lv : ab_L} (f0 : ab_lk lv 0 = some (.ref x0)) : dc_pv u N ab_M_X10_ownWires 0 lv [] m (Φ (d_X10_ownWires x0 m)) := by
  refine dc_pv.mono (dc_ok (C := C_X10_ownWires) (S := S_X10_ownWires) CO_X10_ownWires 400 0 [(0, .ref x0)] lv [] m (dc_sub_cons f0 (dc_sub_nil)) ?_) (Nat.le_succ N)
  unfold d_X10_ownWires
  refine dg_s (pc' := 1) [.int (0 : Int32)] rfl (fun _ => rfl) rfl ?_
  refine dg_L (pc' := 2) [(1, .int (0 : Int32)), (0, .ref x0)] [] rfl (fun _ => rfl) rfl ?_
  refine dg_s (pc' := 3) [.int (0 : Int32)] rfl (fun _ => rfl) rfl ?_
  refine dw_L (pc' := 4) [(2, .int (0 : Int32)), (1, .int (0 : Int32)), (0, .ref x0)] [] rfl (fun _ => rfl) ?_
  exact dw_j rfl (fun lv1 hv => k_X10_ownWires_l4 (Φ := (fun t => Φ t)) x0 m (fun _a  => kR _a) N  (0 : Int32) (0 : Int32) lv1 (hv.1 _ rfl) (hv.2.1 _ rfl) (hv.2.2.1 _ rfl))
noncomputable def H_X10_ownWires : dc_H := fun As m k => match As with
  | [.ref x0] => (d_X10_ownWires x0 m).bind (fun q => k (some (.int q)) m)
  | _ => dc_kz
theorem H_X10_ownWires_ok {u : Nat} : dc_cok u 182 H_X10_ownWires := fun M' hG N As m k P hz hP => by
  obtain rfl : ab_M_X10_ownWires = M' := Option.some.inj hG
  unfold H_X10_ownWires at hP
  split at hP
  · rename_i x0
    exact dc_pv.imp (k_X10_ownWires (Φ := fun (t : Option Int32) r m' => P (t.bind (fun q => k (some (.int q)) m)) → P (k r m')) x0 m (fun _  h => h) rfl) (fun r m' h => h hP)
  · exact absurd hP hz
noncomputable def C_X10_layQuarrels : List (Nat × dc_H) := [(180, H_X10_aims), (182, H_X10_ownWires)]
theorem CO_X10_layQuarrels {u : Nat} : dc_CO u C_X10_layQuarrels := dc_CO_cons H_X10_aims_ok (dc_CO_cons H_X10_ownWires_ok (dc_CO_nil))
def S_X10_layQuarrels : List (Nat × List Nat) := [(24, [0, 1]), (36, [0, 1, 2]), (104, [0, 1, 2])]
noncomputable def d_X10_layQuarrels_b104 (x0 : Nat) (x1 : Int32) (x2 : Int32) (s0 : Int32) (s1 : Nat) (m : dc_M) : Option ((Int32 × dc_M) ⊕ ((Int32 × dc_M) ⊕ dc_M)) :=
  (if ¬ (Int32.toInt ((dc_wi m s1 41 s0).1 x0 40)) = 0 then some (Sum.inl ((x2 + (1 : Int32)), (dc_wi (dc_wi (dc_wi m s1 41 s0) x0 42 ((dc_wi m s1 41 s0).1 x0 42)) x0 40 (((dc_wi (dc_wi m s1 41 s0) x0 42 ((dc_wi m s1 41 s0).1 x0 42)).1 x0 40) + (1 : Int32))))) else some (Sum.inl ((x2 + (1 : Int32)), (dc_wi (dc_wi (dc_wi m s1 41 s0) x0 42 x2) x0 40 (((dc_wi (dc_wi m s1 41 s0) x0 42 x2).1 x0 40) + (1 : Int32))))))
set_option maxHeartbeats 8000000 in
theorem k_X10_layQuarrels_b104 {u : Nat} {N : Nat} {Φ : (Option ((Int32 × dc_M) ⊕ ((Int32 × dc_M) ⊕ dc_M))) → Option Value → dc_M → Prop} (x0 : Nat) (x1 : Int32) (x2 : Int32) (s0 : Int32) (s1 : Nat) (m : dc_M) (kR : ∀  (m : dc_M), Φ (some (Sum.inr (Sum.inr (m)))) (none) m) (k36 : ∀ (x2 : Int32) (m : dc_M) (lv : ab_L), ab_lk lv 0 = some (.ref x0) → ab_lk lv 1 = some (.int x1) → ab_lk lv 2 = some (.int x2) →  dc_pv u N ab_M_X10_layQuarrels 36 lv [] m (Φ (some (Sum.inl (x2, m))))) (k24 : ∀ (x1 : Int32) (m : dc_M) (lv : ab_L), ab_lk lv 0 = some (.ref x0) → ab_lk lv 1 = some (.int x1) →  dc_pv u N ab_M_X10_layQuarrels 24 lv [] m (Φ (some (Sum.inr (Sum.inl (x1, m)))))) {lv : ab_L} (f0 : ab_lk lv 0 = some (.ref x0)) (f1 : ab_lk lv 1 = some (.int x1)) (f2 : ab_lk lv 2 = some (.int x2)) : dc_pv u N ab_M_X10_layQuarrels 104 lv [.int s0, .ref s1] m (Φ (d_X10_layQuarrels_b104 x0 x1 x2 s0 s1 m)) := by
  refine dc_pv.mono (dc_ok (C := C_X10_layQuarrels) (S := S_X10_layQuarrels) CO_X10_layQuarrels 400 104 [(0, .ref x0), (1, .int x1), (2, .int x2)] lv [.int s0, .ref s1] m (dc_sub_cons f0 (dc_sub_cons f1 (dc_sub_cons f2 (dc_sub_nil)))) ?_) (Nat.le_succ N)
  unfold d_X10_layQuarrels_b104
  refine dg_m (pc' := 107) (dc_wi m s1 41 s0) [] rfl (fun _ => rfl) rfl ?_
  refine dg_s (pc' := 108) [.ref x0] rfl (fun _ => rfl) rfl ?_
  refine dg_s (pc' := 109) [.ref x0, .ref x0] rfl (fun _ => rfl) rfl ?_
  refine dg_s (pc' := 112) [.int ((dc_wi m s1 41 s0).1 x0 40), .ref x0] rfl (fun _ => rfl) rfl ?_
  refine dw_if (fun t => Φ t) (¬ (Int32.toInt ((dc_wi m s1 41 s0).1 x0 40)) = 0) [.ref x0] 119 115 rfl (fun _ => rfl) (fun c0 => ?_) (fun c0 => ?_)
  · refine dw_g rfl ?_
    refine dg_s (pc' := 120) [.ref x0, .ref x0] rfl (fun _ => rfl) rfl ?_
    refine dg_s (pc' := 123) [.int ((dc_wi m s1 41 s0).1 x0 42), .ref x0] rfl (fun _ => rfl) rfl ?_
    refine dg_m (pc' := 126) (dc_wi (dc_wi m s1 41 s0) x0 42 ((dc_wi m s1 41 s0).1 x0 42)) [] rfl (fun _ => rfl) rfl ?_
    refine dg_s (pc' := 127) [.ref x0] rfl (fun _ => rfl) rfl ?_
    refine dg_s (pc' := 128) [.ref x0, .ref x0] rfl (fun _ => rfl) rfl ?_
    refine dg_s (pc' := 131) [.int ((dc_wi (dc_wi m s1 41 s0) x0 42 ((dc_wi m s1 41 s0).1 x0 42)).1 x0 40), .ref x0] rfl (fun _ => rfl) rfl ?_
    refine dg_s (pc' := 132) [.int (1 : Int32), .int ((dc_wi (dc_wi m s1 41 s0) x0 42 ((dc_wi m s1 41 s0).1 x0 42)).1 x0 40), .ref x0] rfl (fun _ => rfl) rfl ?_
    refine dg_s (pc' := 133) [.int (((dc_wi (dc_wi m s1 41 s0) x0 42 ((dc_wi m s1 41 s0).1 x0 42)).1 x0 40) + (1 : Int32)), .ref x0] rfl (fun _ => rfl) rfl ?_
    refine dg_m (pc' := 136) (dc_wi (dc_wi (dc_wi m s1 41 s0) x0 42 ((dc_wi m s1 41 s0).1 x0 42)) x0 40 (((dc_wi (dc_wi m s1 41 s0) x0 42 ((dc_wi m s1 41 s0).1 x0 42)).1 x0 40) + (1 : Int32))) [] rfl (fun _ => rfl) rfl ?_
    refine dg_L (pc' := 139) [(2, .int (x2 + (1 : Int32))), (0, .ref x0), (1, .int x1)] [] rfl (fun _ => rfl) rfl ?_
    refine dw_s (pc' := 36) [] rfl (fun _ => rfl) ?_
    exact dw_j rfl (fun lv1 hv => k36 (x2 + (1 : Int32)) (dc_wi (dc_wi (dc_wi m s1 41 s0) x0 42 ((dc_wi m s1 41 s0).1 x0 42)) x0 40 (((dc_wi (dc_wi m s1 41 s0) x0 42 ((dc_wi m s1 41 s0).1 x0 42)).1 x0 40) + (1 : Int32))) lv1 (hv.1 _ rfl) (hv.2.1 _ rfl) (hv.2.2.1 _ rfl))
  · refine dw_g rfl ?_
    refine dg_s (pc' := 116) [.int x2, .ref x0] rfl (fun _ => rfl) rfl ?_
    refine dg_s (pc' := 123) [.int x2, .ref x0] rfl (fun _ => rfl) rfl ?_
    refine dg_m (pc' := 126) (dc_wi (dc_wi m s1 41 s0) x0 42 x2) [] rfl (fun _ => rfl) rfl ?_
    refine dg_s (pc' := 127) [.ref x0] rfl (fun _ => rfl) rfl ?_
    refine dg_s (pc' := 128) [.ref x0, .ref x0] rfl (fun _ => rfl) rfl ?_
    refine dg_s (pc' := 131) [.int ((dc_wi (dc_wi m s1 41 s0) x0 42 x2).1 x0 40), .ref x0] rfl (fun _ => rfl) rfl ?_
    refine dg_s (pc' := 132) [.int (1 : Int32), .int ((dc_wi (dc_wi m s1 41 s0) x0 42 x2).1 x0 40), .ref x0] rfl (fun _ => rfl) rfl ?_
    refine dg_s (pc' := 133) [.int (((dc_wi (dc_wi m s1 41 s0) x0 42 x2).1 x0 40) + (1 : Int32)), .ref x0] rfl (fun _ => rfl) rfl ?_
    refine dg_m (pc' := 136) (dc_wi (dc_wi (dc_wi m s1 41 s0) x0 42 x2) x0 40 (((dc_wi (dc_wi m s1 41 s0) x0 42 x2).1 x0 40) + (1 : Int32))) [] rfl (fun _ => rfl) rfl ?_
    refine dg_L (pc' := 139) [(2, .int (x2 + (1 : Int32))), (0, .ref x0), (1, .int x1)] [] rfl (fun _ => rfl) rfl ?_
    refine dw_s (pc' := 36) [] rfl (fun _ => rfl) ?_
    exact dw_j rfl (fun lv1 hv => k36 (x2 + (1 : Int32)) (dc_wi (dc_wi (dc_wi m s1 41 s0) x0 42 x2) x0 40 (((dc_wi (dc_wi m s1 41 s0) x0 42 x2).1 x0 40) + (1 : Int32))) lv1 (hv.1 _ rfl) (hv.2.1 _ rfl) (hv.2.2.1 _ rfl))
noncomputable def d_X10_layQuarrels_l36b (x0 : Nat) (x1 : Int32) (x2 : Int32) (m : dc_M) : Option ((Int32 × dc_M) ⊕ ((Int32 × dc_M) ⊕ dc_M)) :=
  (if (Int32.toInt (m.1 x0 32)) ≤ (Int32.toInt x2) then some (Sum.inr (Sum.inl ((x1 + (1 : Int32)), m))) else (if ¬ (Int32.toInt (m.1 (x0 + 19) (Int32.toNatClampNeg x1))) = (Int32.toInt (m.1 (x0 + 19) (Int32.toNatClampNeg x2))) then some (Sum.inl ((x2 + (1 : Int32)), m)) else ((d_X10_aims x0 x1 (dc_wi m x0 39 ((m.1 x0 39) + (1 : Int32)))).bind (fun q1 => ((d_X10_aims x0 x2 (dc_wi m x0 39 ((m.1 x0 39) + (1 : Int32)))).bind (fun q2 => ((d_X10_ownWires x0 (dc_wi m x0 39 ((m.1 x0 39) + (1 : Int32)))).bind (fun q3 => (if (Int32.toInt ((q1 ^^^ q2) &&& q3)) = 0 then some (Sum.inl ((x2 + (1 : Int32)), (dc_wi m x0 39 ((m.1 x0 39) + (1 : Int32))))) else (if ¬ (Int32.toInt ((dc_wi m x0 39 ((m.1 x0 39) + (1 : Int32))).1 x0 40)) = 0 then (d_X10_layQuarrels_b104 x0 x1 x2 ((dc_wi m x0 39 ((m.1 x0 39) + (1 : Int32))).1 x0 41) x0 (dc_wi m x0 39 ((m.1 x0 39) + (1 : Int32)))) else (d_X10_layQuarrels_b104 x0 x1 x2 x1 x0 (dc_wi m x0 39 ((m.1 x0 39) + (1 : Int32))))))))))))))
noncomputable def d_X10_layQuarrels_l36s (x0 : Nat) (x1 : Int32) : (Int32 × dc_M) → Option ((Int32 × dc_M) ⊕ ((Int32 × dc_M) ⊕ dc_M)) := fun s => d_X10_layQuarrels_l36b x0 x1 s.1 s.2
noncomputable def d_X10_layQuarrels_l36 (x0 : Nat) (x1 : Int32) (x2 : Int32) (m : dc_M) : Option ((Int32 × dc_M) ⊕ dc_M) := dc_lp (d_X10_layQuarrels_l36s x0 x1) (x2, m)
set_option maxHeartbeats 8000000 in
theorem k_X10_layQuarrels_l36 {u : Nat} {Φ : (Option ((Int32 × dc_M) ⊕ dc_M)) → Option Value → dc_M → Prop} (x0 : Nat) (x1 : Int32) (kR : ∀  (m : dc_M), Φ (some (Sum.inr (m))) (none) m) : ∀ (N : Nat), (∀ (x1 : Int32) (m : dc_M) (lv : ab_L), ab_lk lv 0 = some (.ref x0) → ab_lk lv 1 = some (.int x1) →  dc_pv u N ab_M_X10_layQuarrels 24 lv [] m (Φ (some (Sum.inl (x1, m))))) → ∀ (x2 : Int32) (m : dc_M) (lv : ab_L), ab_lk lv 0 = some (.ref x0) → ab_lk lv 1 = some (.int x1) → ab_lk lv 2 = some (.int x2) → dc_pv u N ab_M_X10_layQuarrels 36 lv [] m (Φ (d_X10_layQuarrels_l36 x0 x1 x2 m)) := by
  intro N
  induction N with
  | zero => intros; exact dc_pv_zero
  | succ N ih =>
    intro k24 x2 m lv f0 f1 f2
    have k24 := fun a0 a1 a2 a3 a4 => (k24 a0 a1 a2 a3 a4).mono (Nat.le_succ N)
    have ih := ih k24
    refine dc_ok (C := C_X10_layQuarrels) (S := S_X10_layQuarrels) CO_X10_layQuarrels 400 36 [(0, .ref x0), (1, .int x1), (2, .int x2)] lv [] m (dc_sub_cons f0 (dc_sub_cons f1 (dc_sub_cons f2 (dc_sub_nil)))) ?_
    unfold d_X10_layQuarrels_l36
    rw [dc_lp_eq]
    show (fun t x => dc_lf u N ab_M_X10_layQuarrels (Φ (Option.bind t (dc_bk (d_X10_layQuarrels_l36s x0 x1)))) x) (d_X10_layQuarrels_l36b x0 x1 x2 m) _
    dsimp only
    unfold d_X10_layQuarrels_l36b
    refine dg_s (pc' := 37) [.int x2] rfl (fun _ => rfl) rfl ?_
    refine dg_s (pc' := 38) [.ref x0, .int x2] rfl (fun _ => rfl) rfl ?_
    refine dg_s (pc' := 41) [.int (m.1 x0 32), .int x2] rfl (fun _ => rfl) rfl ?_
    refine dw_if (fun t => Φ (Option.bind t (dc_bk (d_X10_layQuarrels_l36s x0 x1)))) ((Int32.toInt (m.1 x0 32)) ≤ (Int32.toInt x2)) [] 142 44 rfl (fun _ => rfl) (fun c0 => ?_) (fun c0 => ?_)
    · refine dw_g rfl ?_
      refine dg_L (pc' := 145) [(1, .int (x1 + (1 : Int32))), (0, .ref x0), (2, .int x2)] [] rfl (fun _ => rfl) rfl ?_
      refine dw_s (pc' := 24) [] rfl (fun _ => rfl) ?_
      exact dw_j rfl (fun lv1 hv => k24 (x1 + (1 : Int32)) m lv1 (hv.1 _ rfl) (hv.2.1 _ rfl))
    · refine dw_g rfl ?_
      refine dg_s (pc' := 45) [.ref x0] rfl (fun _ => rfl) rfl ?_
      refine dg_s (pc' := 48) [.ref (x0 + 19)] rfl (fun _ => rfl) rfl ?_
      refine dg_s (pc' := 49) [.int x1, .ref (x0 + 19)] rfl (fun _ => rfl) rfl ?_
      refine dg_s (pc' := 50) [.int (m.1 (x0 + 19) (Int32.toNatClampNeg x1))] rfl (fun _ => rfl) rfl ?_
      refine dg_s (pc' := 51) [.ref x0, .int (m.1 (x0 + 19) (Int32.toNatClampNeg x1))] rfl (fun _ => rfl) rfl ?_
      refine dg_s (pc' := 54) [.ref (x0 + 19), .int (m.1 (x0 + 19) (Int32.toNatClampNeg x1))] rfl (fun _ => rfl) rfl ?_
      refine dg_s (pc' := 55) [.int x2, .ref (x0 + 19), .int (m.1 (x0 + 19) (Int32.toNatClampNeg x1))] rfl (fun _ => rfl) rfl ?_
      refine dg_s (pc' := 56) [.int (m.1 (x0 + 19) (Int32.toNatClampNeg x2)), .int (m.1 (x0 + 19) (Int32.toNatClampNeg x1))] rfl (fun _ => rfl) rfl ?_
      refine dw_if (fun t => Φ (Option.bind t (dc_bk (d_X10_layQuarrels_l36s x0 x1)))) (¬ (Int32.toInt (m.1 (x0 + 19) (Int32.toNatClampNeg x1))) = (Int32.toInt (m.1 (x0 + 19) (Int32.toNatClampNeg x2)))) [] 136 59 rfl (fun _ => rfl) (fun c1 => ?_) (fun c1 => ?_)
      · refine dw_g rfl ?_
        refine dg_L (pc' := 139) [(2, .int (x2 + (1 : Int32))), (0, .ref x0), (1, .int x1)] [] rfl (fun _ => rfl) rfl ?_
        refine dw_s (pc' := 36) [] rfl (fun _ => rfl) ?_
        exact dw_j rfl (fun lv1 hv => ih (x2 + (1 : Int32)) m lv1 (hv.1 _ rfl) (hv.2.1 _ rfl) (hv.2.2.1 _ rfl))
      · refine dw_g rfl ?_
        refine dg_s (pc' := 60) [.ref x0] rfl (fun _ => rfl) rfl ?_
        refine dg_s (pc' := 61) [.ref x0, .ref x0] rfl (fun _ => rfl) rfl ?_
        refine dg_s (pc' := 64) [.int (m.1 x0 39), .ref x0] rfl (fun _ => rfl) rfl ?_
        refine dg_s (pc' := 65) [.int (1 : Int32), .int (m.1 x0 39), .ref x0] rfl (fun _ => rfl) rfl ?_
        refine dg_s (pc' := 66) [.int ((m.1 x0 39) + (1 : Int32)), .ref x0] rfl (fun _ => rfl) rfl ?_
        refine dg_m (pc' := 69) (dc_wi m x0 39 ((m.1 x0 39) + (1 : Int32))) [] rfl (fun _ => rfl) rfl ?_
        refine dg_s (pc' := 70) [.ref x0] rfl (fun _ => rfl) rfl ?_
        refine dg_s (pc' := 71) [.int x1, .ref x0] rfl (fun _ => rfl) rfl ?_
        refine dw_b (fun t => Φ (Option.bind t (dc_bk (d_X10_layQuarrels_l36s x0 x1)))) (pc' := 74) (fun q1 => [.int q1]) (fun q1 => (dc_wi m x0 39 ((m.1 x0 39) + (1 : Int32)))) rfl (fun _ => rfl) (fun q1 => ?_)
        refine dw_g rfl ?_
        refine dg_s (pc' := 75) [.ref x0, .int q1] rfl (fun _ => rfl) rfl ?_
        refine dg_s (pc' := 76) [.int x2, .ref x0, .int q1] rfl (fun _ => rfl) rfl ?_
        refine dw_b (fun t => Φ (Option.bind t (dc_bk (d_X10_layQuarrels_l36s x0 x1)))) (pc' := 79) (fun q2 => [.int q2, .int q1]) (fun q2 => (dc_wi m x0 39 ((m.1 x0 39) + (1 : Int32)))) rfl (fun _ => rfl) (fun q2 => ?_)
        refine dw_g rfl ?_
        refine dg_s (pc' := 80) [.int (q1 ^^^ q2)] rfl (fun _ => rfl) rfl ?_
        refine dg_s (pc' := 81) [.ref x0, .int (q1 ^^^ q2)] rfl (fun _ => rfl) rfl ?_
        refine dw_b (fun t => Φ (Option.bind t (dc_bk (d_X10_layQuarrels_l36s x0 x1)))) (pc' := 84) (fun q3 => [.int q3, .int (q1 ^^^ q2)]) (fun q3 => (dc_wi m x0 39 ((m.1 x0 39) + (1 : Int32)))) rfl (fun _ => rfl) (fun q3 => ?_)
        refine dw_g rfl ?_
        refine dg_s (pc' := 85) [.int ((q1 ^^^ q2) &&& q3)] rfl (fun _ => rfl) rfl ?_
        refine dw_if (fun t => Φ (Option.bind t (dc_bk (d_X10_layQuarrels_l36s x0 x1)))) ((Int32.toInt ((q1 ^^^ q2) &&& q3)) = 0) [] 136 88 rfl (fun _ => rfl) (fun c2 => ?_) (fun c2 => ?_)
        · refine dw_g rfl ?_
          refine dg_L (pc' := 139) [(2, .int (x2 + (1 : Int32))), (0, .ref x0), (1, .int x1)] [] rfl (fun _ => rfl) rfl ?_
          refine dw_s (pc' := 36) [] rfl (fun _ => rfl) ?_
          exact dw_j rfl (fun lv1 hv => ih (x2 + (1 : Int32)) (dc_wi m x0 39 ((m.1 x0 39) + (1 : Int32))) lv1 (hv.1 _ rfl) (hv.2.1 _ rfl) (hv.2.2.1 _ rfl))
        · refine dw_g rfl ?_
          refine dg_s (pc' := 89) [.ref x0] rfl (fun _ => rfl) rfl ?_
          refine dg_s (pc' := 90) [.ref x0, .ref x0] rfl (fun _ => rfl) rfl ?_
          refine dg_s (pc' := 93) [.int ((dc_wi m x0 39 ((m.1 x0 39) + (1 : Int32))).1 x0 40), .ref x0] rfl (fun _ => rfl) rfl ?_
          refine dw_if (fun t => Φ (Option.bind t (dc_bk (d_X10_layQuarrels_l36s x0 x1)))) (¬ (Int32.toInt ((dc_wi m x0 39 ((m.1 x0 39) + (1 : Int32))).1 x0 40)) = 0) [.ref x0] 100 96 rfl (fun _ => rfl) (fun c3 => ?_) (fun c3 => ?_)
          · refine dw_g rfl ?_
            refine dg_s (pc' := 101) [.ref x0, .ref x0] rfl (fun _ => rfl) rfl ?_
            refine dw_s (pc' := 104) [.int ((dc_wi m x0 39 ((m.1 x0 39) + (1 : Int32))).1 x0 41), .ref x0] rfl (fun _ => rfl) ?_
            exact dw_j rfl (fun lv1 hv => k_X10_layQuarrels_b104 (Φ := (fun t => Φ (Option.bind t (dc_bk (d_X10_layQuarrels_l36s x0 x1))))) x0 x1 x2 ((dc_wi m x0 39 ((m.1 x0 39) + (1 : Int32))).1 x0 41) x0 (dc_wi m x0 39 ((m.1 x0 39) + (1 : Int32))) (fun _b => kR _b) ih k24 (hv.1 _ rfl) (hv.2.1 _ rfl) (hv.2.2.1 _ rfl))
          · refine dw_g rfl ?_
            refine dg_s (pc' := 97) [.int x1, .ref x0] rfl (fun _ => rfl) rfl ?_
            refine dw_s (pc' := 104) [.int x1, .ref x0] rfl (fun _ => rfl) ?_
            exact dw_j rfl (fun lv1 hv => k_X10_layQuarrels_b104 (Φ := (fun t => Φ (Option.bind t (dc_bk (d_X10_layQuarrels_l36s x0 x1))))) x0 x1 x2 x1 x0 (dc_wi m x0 39 ((m.1 x0 39) + (1 : Int32))) (fun _b => kR _b) ih k24 (hv.1 _ rfl) (hv.2.1 _ rfl) (hv.2.2.1 _ rfl))
noncomputable def d_X10_layQuarrels_l24b (x0 : Nat) (x1 : Int32) (m : dc_M) : Option ((Int32 × dc_M) ⊕ dc_M) :=
  (if (Int32.toInt (m.1 x0 32)) ≤ (Int32.toInt x1) then some (Sum.inr (m)) else (d_X10_layQuarrels_l36 x0 x1 (x1 + (1 : Int32)) m))
noncomputable def d_X10_layQuarrels_l24s (x0 : Nat) : (Int32 × dc_M) → Option ((Int32 × dc_M) ⊕ dc_M) := fun s => d_X10_layQuarrels_l24b x0 s.1 s.2
noncomputable def d_X10_layQuarrels_l24 (x0 : Nat) (x1 : Int32) (m : dc_M) : Option dc_M := dc_lp (d_X10_layQuarrels_l24s x0) (x1, m)
set_option maxHeartbeats 8000000 in
theorem k_X10_layQuarrels_l24 {u : Nat} {Φ : (Option dc_M) → Option Value → dc_M → Prop} (x0 : Nat) (kR : ∀  (m : dc_M), Φ (some (m)) (none) m) : ∀ (N : Nat), ∀ (x1 : Int32) (m : dc_M) (lv : ab_L), ab_lk lv 0 = some (.ref x0) → ab_lk lv 1 = some (.int x1) → dc_pv u N ab_M_X10_layQuarrels 24 lv [] m (Φ (d_X10_layQuarrels_l24 x0 x1 m)) := by
  intro N
  induction N with
  | zero => intros; exact dc_pv_zero
  | succ N ih =>
    intro x1 m lv f0 f1
    refine dc_ok (C := C_X10_layQuarrels) (S := S_X10_layQuarrels) CO_X10_layQuarrels 400 24 [(0, .ref x0), (1, .int x1)] lv [] m (dc_sub_cons f0 (dc_sub_cons f1 (dc_sub_nil))) ?_
    unfold d_X10_layQuarrels_l24
    rw [dc_lp_eq]
    show (fun t x => dc_lf u N ab_M_X10_layQuarrels (Φ (Option.bind t (dc_bk (d_X10_layQuarrels_l24s x0)))) x) (d_X10_layQuarrels_l24b x0 x1 m) _
    dsimp only
    unfold d_X10_layQuarrels_l24b
    refine dg_s (pc' := 25) [.int x1] rfl (fun _ => rfl) rfl ?_
    refine dg_s (pc' := 26) [.ref x0, .int x1] rfl (fun _ => rfl) rfl ?_
    refine dg_s (pc' := 29) [.int (m.1 x0 32), .int x1] rfl (fun _ => rfl) rfl ?_
    refine dw_if (fun t => Φ (Option.bind t (dc_bk (d_X10_layQuarrels_l24s x0)))) ((Int32.toInt (m.1 x0 32)) ≤ (Int32.toInt x1)) [] 148 32 rfl (fun _ => rfl) (fun c0 => ?_) (fun c0 => ?_)
    · refine dw_g rfl ?_
      exact dw_r (some (.inl (none, m))) rfl (fun _ => rfl) (kR _)
    · refine dw_g rfl ?_
      refine dg_s (pc' := 33) [.int x1] rfl (fun _ => rfl) rfl ?_
      refine dg_s (pc' := 34) [.int (1 : Int32), .int x1] rfl (fun _ => rfl) rfl ?_
      refine dg_s (pc' := 35) [.int (x1 + (1 : Int32))] rfl (fun _ => rfl) rfl ?_
      refine dw_L (pc' := 36) [(2, .int (x1 + (1 : Int32))), (0, .ref x0), (1, .int x1)] [] rfl (fun _ => rfl) ?_
      exact dw_j rfl (fun lv1 hv => k_X10_layQuarrels_l36 (Φ := (fun t => Φ (Option.bind t (dc_bk (d_X10_layQuarrels_l24s x0))))) x0 x1 (fun _b => kR _b) N ih (x1 + (1 : Int32)) m lv1 (hv.1 _ rfl) (hv.2.1 _ rfl) (hv.2.2.1 _ rfl))
noncomputable def d_X10_layQuarrels (x0 : Nat) (m : dc_M) : Option dc_M :=
  (d_X10_layQuarrels_l24 x0 (0 : Int32) (dc_wi (dc_wi (dc_wi (dc_wi m x0 39 (0 : Int32)) x0 40 (0 : Int32)) x0 41 (-4 : Int32)) x0 42 (-4 : Int32)))
set_option maxHeartbeats 8000000 in
theorem k_X10_layQuarrels {u : Nat} {N : Nat} {Φ : (Option dc_M) → Option Value → dc_M → Prop} (x0 : Nat) (m : dc_M) (kR : ∀  (m : dc_M), Φ (some (m)) (none) m)  {lv : ab_L} (f0 : ab_lk lv 0 = some (.ref x0)) : dc_pv u N ab_M_X10_layQuarrels 0 lv [] m (Φ (d_X10_layQuarrels x0 m)) := by
  refine dc_pv.mono (dc_ok (C := C_X10_layQuarrels) (S := S_X10_layQuarrels) CO_X10_layQuarrels 400 0 [(0, .ref x0)] lv [] m (dc_sub_cons f0 (dc_sub_nil)) ?_) (Nat.le_succ N)
  unfold d_X10_layQuarrels
  refine dg_s (pc' := 1) [.ref x0] rfl (fun _ => rfl) rfl ?_
  refine dg_s (pc' := 2) [.int (0 : Int32), .ref x0] rfl (fun _ => rfl) rfl ?_
  refine dg_m (pc' := 5) (dc_wi m x0 39 (0 : Int32)) [] rfl (fun _ => rfl) rfl ?_
  refine dg_s (pc' := 6) [.ref x0] rfl (fun _ => rfl) rfl ?_
  refine dg_s (pc' := 7) [.int (0 : Int32), .ref x0] rfl (fun _ => rfl) rfl ?_
  refine dg_m (pc' := 10) (dc_wi (dc_wi m x0 39 (0 : Int32)) x0 40 (0 : Int32)) [] rfl (fun _ => rfl) rfl ?_
  refine dg_s (pc' := 11) [.ref x0] rfl (fun _ => rfl) rfl ?_
  refine dg_s (pc' := 13) [.int (-4 : Int32), .ref x0] rfl (fun _ => rfl) rfl ?_
  refine dg_m (pc' := 16) (dc_wi (dc_wi (dc_wi m x0 39 (0 : Int32)) x0 40 (0 : Int32)) x0 41 (-4 : Int32)) [] rfl (fun _ => rfl) rfl ?_
  refine dg_s (pc' := 17) [.ref x0] rfl (fun _ => rfl) rfl ?_
  refine dg_s (pc' := 19) [.int (-4 : Int32), .ref x0] rfl (fun _ => rfl) rfl ?_
  refine dg_m (pc' := 22) (dc_wi (dc_wi (dc_wi (dc_wi m x0 39 (0 : Int32)) x0 40 (0 : Int32)) x0 41 (-4 : Int32)) x0 42 (-4 : Int32)) [] rfl (fun _ => rfl) rfl ?_
  refine dg_s (pc' := 23) [.int (0 : Int32)] rfl (fun _ => rfl) rfl ?_
  refine dw_L (pc' := 24) [(1, .int (0 : Int32)), (0, .ref x0)] [] rfl (fun _ => rfl) ?_
  exact dw_j rfl (fun lv1 hv => k_X10_layQuarrels_l24 (Φ := (fun t => Φ t)) x0 (fun _b => kR _b) N  (0 : Int32) (dc_wi (dc_wi (dc_wi (dc_wi m x0 39 (0 : Int32)) x0 40 (0 : Int32)) x0 41 (-4 : Int32)) x0 42 (-4 : Int32)) lv1 (hv.1 _ rfl) (hv.2.1 _ rfl))
noncomputable def H_X10_layQuarrels : dc_H := fun As m k => match As with
  | [.ref x0] => (d_X10_layQuarrels x0 m).bind (fun q => k (none) q)
  | _ => dc_kz
theorem H_X10_layQuarrels_ok {u : Nat} : dc_cok u 183 H_X10_layQuarrels := fun M' hG N As m k P hz hP => by
  obtain rfl : ab_M_X10_layQuarrels = M' := Option.some.inj hG
  unfold H_X10_layQuarrels at hP
  split at hP
  · rename_i x0
    exact dc_pv.imp (k_X10_layQuarrels (Φ := fun (t : Option dc_M) r m' => P (t.bind (fun q => k (none) q)) → P (k r m')) x0 m (fun _ h => h) rfl) (fun r m' h => h hP)
  · exact absurd hP hz
noncomputable def C_X10_quarrels : List (Nat × dc_H) := [(146, H_X10_in), (183, H_X10_layQuarrels), (175, H_X10_layRight)]
theorem CO_X10_quarrels {u : Nat} : dc_CO u C_X10_quarrels := dc_CO_cons H_X10_in_ok (dc_CO_cons H_X10_layQuarrels_ok (dc_CO_cons H_X10_layRight_ok (dc_CO_nil)))
def S_X10_quarrels : List (Nat × List Nat) := []
noncomputable def d_X10_quarrels (x0 : Nat) (x1 : Int32) (m : dc_M) : Option (Int32 × dc_M) :=
  (if ¬ (Int32.toInt (d_X10_in (Int32.toInt64 x1) (0 : Int64) (3 : Int64) m)) = 0 then ((d_X10_layRight x0 m).bind (fun q1 => (if ¬ (Int32.toInt q1.1) = 0 then ((d_X10_layQuarrels x0 q1.2).bind (fun q2 => (if ¬ (Int32.toInt x1) = 0 then (if ¬ (Int32.toInt x1) = 1 then (if ¬ (Int32.toInt x1) = 2 then some (((q2.1 x0 42), q2)) else some (((q2.1 x0 41), q2))) else some (((q2.1 x0 40), q2))) else some (((q2.1 x0 39), q2))))) else some (((-2 : Int32), q1.2))))) else some (((-1 : Int32), m)))
set_option maxHeartbeats 8000000 in
theorem k_X10_quarrels {u : Nat} {N : Nat} {Φ : (Option (Int32 × dc_M)) → Option Value → dc_M → Prop} (x0 : Nat) (x1 : Int32) (m : dc_M) (kR : ∀ (v : Int32) (m : dc_M), Φ (some ((v, m))) (some (.int v)) m)  {lv : ab_L} (f0 : ab_lk lv 0 = some (.ref x0)) (f1 : ab_lk lv 1 = some (.int x1)) : dc_pv u N ab_M_X10_quarrels 0 lv [] m (Φ (d_X10_quarrels x0 x1 m)) := by
  refine dc_pv.mono (dc_ok (C := C_X10_quarrels) (S := S_X10_quarrels) CO_X10_quarrels 400 0 [(0, .ref x0), (1, .int x1)] lv [] m (dc_sub_cons f0 (dc_sub_cons f1 (dc_sub_nil))) ?_) (Nat.le_succ N)
  unfold d_X10_quarrels
  refine dg_s (pc' := 1) [.int x1] rfl (fun _ => rfl) rfl ?_
  refine dg_s (pc' := 2) [.long (Int32.toInt64 x1)] rfl (fun _ => rfl) rfl ?_
  refine dg_s (pc' := 3) [.long (0 : Int64), .long (Int32.toInt64 x1)] rfl (fun _ => rfl) rfl ?_
  refine dg_s (pc' := 6) [.long (3 : Int64), .long (0 : Int64), .long (Int32.toInt64 x1)] rfl (fun _ => rfl) rfl ?_
  refine dg_s (pc' := 9) [.int (d_X10_in (Int32.toInt64 x1) (0 : Int64) (3 : Int64) m)] rfl (fun _ => rfl) rfl ?_
  refine dw_if (fun t => Φ t) (¬ (Int32.toInt (d_X10_in (Int32.toInt64 x1) (0 : Int64) (3 : Int64) m)) = 0) [] 14 12 rfl (fun _ => rfl) (fun c0 => ?_) (fun c0 => ?_)
  · refine dw_g rfl ?_
    refine dg_s (pc' := 15) [.ref x0] rfl (fun _ => rfl) rfl ?_
    refine dw_b (fun t => Φ t) (pc' := 18) (fun q1 => [.int q1.1]) (fun q1 => q1.2) rfl (fun _ => rfl) (fun q1 => ?_)
    refine dw_g rfl ?_
    refine dw_if (fun t => Φ t) (¬ (Int32.toInt q1.1) = 0) [] 24 21 rfl (fun _ => rfl) (fun c1 => ?_) (fun c1 => ?_)
    · refine dw_g rfl ?_
      refine dg_s (pc' := 25) [.ref x0] rfl (fun _ => rfl) rfl ?_
      refine dw_b (fun t => Φ t) (pc' := 28) (fun q2 => []) (fun q2 => q2) rfl (fun _ => rfl) (fun q2 => ?_)
      refine dw_g rfl ?_
      refine dg_s (pc' := 29) [.int x1] rfl (fun _ => rfl) rfl ?_
      refine dw_if (fun t => Φ t) (¬ (Int32.toInt x1) = 0) [] 39 32 rfl (fun _ => rfl) (fun c2 => ?_) (fun c2 => ?_)
      · refine dw_g rfl ?_
        refine dg_s (pc' := 40) [.int x1] rfl (fun _ => rfl) rfl ?_
        refine dg_s (pc' := 41) [.int (1 : Int32), .int x1] rfl (fun _ => rfl) rfl ?_
        refine dw_if (fun t => Φ t) (¬ (Int32.toInt x1) = 1) [] 51 44 rfl (fun _ => rfl) (fun c3 => ?_) (fun c3 => ?_)
        · refine dw_g rfl ?_
          refine dg_s (pc' := 52) [.int x1] rfl (fun _ => rfl) rfl ?_
          refine dg_s (pc' := 53) [.int (2 : Int32), .int x1] rfl (fun _ => rfl) rfl ?_
          refine dw_if (fun t => Φ t) (¬ (Int32.toInt x1) = 2) [] 63 56 rfl (fun _ => rfl) (fun c4 => ?_) (fun c4 => ?_)
          · refine dw_g rfl ?_
            refine dg_s (pc' := 64) [.ref x0] rfl (fun _ => rfl) rfl ?_
            refine dg_s (pc' := 67) [.int (q2.1 x0 42)] rfl (fun _ => rfl) rfl ?_
            exact dw_r (some (.inl (some (.int (q2.1 x0 42)), q2))) rfl (fun _ => rfl) (kR _ _)
          · refine dw_g rfl ?_
            refine dg_s (pc' := 57) [.ref x0] rfl (fun _ => rfl) rfl ?_
            refine dg_s (pc' := 60) [.int (q2.1 x0 41)] rfl (fun _ => rfl) rfl ?_
            refine dg_s (pc' := 67) [.int (q2.1 x0 41)] rfl (fun _ => rfl) rfl ?_
            exact dw_r (some (.inl (some (.int (q2.1 x0 41)), q2))) rfl (fun _ => rfl) (kR _ _)
        · refine dw_g rfl ?_
          refine dg_s (pc' := 45) [.ref x0] rfl (fun _ => rfl) rfl ?_
          refine dg_s (pc' := 48) [.int (q2.1 x0 40)] rfl (fun _ => rfl) rfl ?_
          refine dg_s (pc' := 67) [.int (q2.1 x0 40)] rfl (fun _ => rfl) rfl ?_
          exact dw_r (some (.inl (some (.int (q2.1 x0 40)), q2))) rfl (fun _ => rfl) (kR _ _)
      · refine dw_g rfl ?_
        refine dg_s (pc' := 33) [.ref x0] rfl (fun _ => rfl) rfl ?_
        refine dg_s (pc' := 36) [.int (q2.1 x0 39)] rfl (fun _ => rfl) rfl ?_
        refine dg_s (pc' := 67) [.int (q2.1 x0 39)] rfl (fun _ => rfl) rfl ?_
        exact dw_r (some (.inl (some (.int (q2.1 x0 39)), q2))) rfl (fun _ => rfl) (kR _ _)
    · refine dw_g rfl ?_
      refine dg_s (pc' := 23) [.int (-2 : Int32)] rfl (fun _ => rfl) rfl ?_
      exact dw_r (some (.inl (some (.int (-2 : Int32)), q1.2))) rfl (fun _ => rfl) (kR _ _)
  · refine dw_g rfl ?_
    refine dg_s (pc' := 13) [.int (-1 : Int32)] rfl (fun _ => rfl) rfl ?_
    exact dw_r (some (.inl (some (.int (-1 : Int32)), m))) rfl (fun _ => rfl) (kR _ _)
noncomputable def H_X10_quarrels : dc_H := fun As m k => match As with
  | [.ref x0, .int x1] => (d_X10_quarrels x0 x1 m).bind (fun q => k (some (.int q.1)) q.2)
  | _ => dc_kz
theorem H_X10_quarrels_ok {u : Nat} : dc_cok u 184 H_X10_quarrels := fun M' hG N As m k P hz hP => by
  obtain rfl : ab_M_X10_quarrels = M' := Option.some.inj hG
  unfold H_X10_quarrels at hP
  split at hP
  · rename_i x0 x1
    exact dc_pv.imp (k_X10_quarrels (Φ := fun (t : Option (Int32 × dc_M)) r m' => P (t.bind (fun q => k (some (.int q.1)) q.2)) → P (k r m')) x0 x1 m (fun _ _ h => h) rfl rfl) (fun r m' h => h hP)
  · exact absurd hP hz
noncomputable def C_X10_layBacks : List (Nat × dc_H) := [(179, H_X10_excited)]
theorem CO_X10_layBacks {u : Nat} : dc_CO u C_X10_layBacks := dc_CO_cons H_X10_excited_ok (dc_CO_nil)
def S_X10_layBacks : List (Nat × List Nat) := [(25, [0, 1]), (35, [0, 1, 2]), (82, [0, 1, 2, 3, 4]), (166, [0, 1, 2, 3, 4]), (185, [0, 1, 2, 3, 4])]
noncomputable def d_X10_layBacks_b185 (x0 : Nat) (x1 : Int32) (x2 : Int32) (x3 : Int32) (x4 : Int32) (s0 : Int32) (s1 : Nat) (m : dc_M) : Option ((Int32 × dc_M) ⊕ ((Int32 × dc_M) ⊕ ((Int32 × dc_M) ⊕ dc_M))) :=
  (if ¬ (Int32.toInt ((dc_wi m s1 45 s0).1 x0 43)) = 0 then some (Sum.inl ((x4 + (1 : Int32)), (dc_wi (dc_wi (dc_wi m s1 45 s0) x0 46 ((dc_wi m s1 45 s0).1 x0 46)) x0 43 (((dc_wi (dc_wi m s1 45 s0) x0 46 ((dc_wi m s1 45 s0).1 x0 46)).1 x0 43) + (1 : Int32))))) else some (Sum.inl ((x4 + (1 : Int32)), (dc_wi (dc_wi (dc_wi m s1 45 s0) x0 46 x4) x0 43 (((dc_wi (dc_wi m s1 45 s0) x0 46 x4).1 x0 43) + (1 : Int32))))))
set_option maxHeartbeats 8000000 in
theorem k_X10_layBacks_b185 {u : Nat} {N : Nat} {Φ : (Option ((Int32 × dc_M) ⊕ ((Int32 × dc_M) ⊕ ((Int32 × dc_M) ⊕ dc_M)))) → Option Value → dc_M → Prop} (x0 : Nat) (x1 : Int32) (x2 : Int32) (x3 : Int32) (x4 : Int32) (s0 : Int32) (s1 : Nat) (m : dc_M) (kR : ∀  (m : dc_M), Φ (some (Sum.inr (Sum.inr (Sum.inr (m))))) (none) m) (k82 : ∀ (x4 : Int32) (m : dc_M) (lv : ab_L), ab_lk lv 0 = some (.ref x0) → ab_lk lv 1 = some (.int x1) → ab_lk lv 2 = some (.int x2) → ab_lk lv 3 = some (.int x3) → ab_lk lv 4 = some (.int x4) →  dc_pv u N ab_M_X10_layBacks 82 lv [] m (Φ (some (Sum.inl (x4, m))))) (k35 : ∀ (x2 : Int32) (m : dc_M) (lv : ab_L), ab_lk lv 0 = some (.ref x0) → ab_lk lv 1 = some (.int x1) → ab_lk lv 2 = some (.int x2) →  dc_pv u N ab_M_X10_layBacks 35 lv [] m (Φ (some (Sum.inr (Sum.inl (x2, m)))))) (k25 : ∀ (x1 : Int32) (m : dc_M) (lv : ab_L), ab_lk lv 0 = some (.ref x0) → ab_lk lv 1 = some (.int x1) →  dc_pv u N ab_M_X10_layBacks 25 lv [] m (Φ (some (Sum.inr (Sum.inr (Sum.inl (x1, m))))))) {lv : ab_L} (f0 : ab_lk lv 0 = some (.ref x0)) (f1 : ab_lk lv 1 = some (.int x1)) (f2 : ab_lk lv 2 = some (.int x2)) (f3 : ab_lk lv 3 = some (.int x3)) (f4 : ab_lk lv 4 = some (.int x4)) : dc_pv u N ab_M_X10_layBacks 185 lv [.int s0, .ref s1] m (Φ (d_X10_layBacks_b185 x0 x1 x2 x3 x4 s0 s1 m)) := by
  refine dc_pv.mono (dc_ok (C := C_X10_layBacks) (S := S_X10_layBacks) CO_X10_layBacks 400 185 [(0, .ref x0), (1, .int x1), (2, .int x2), (3, .int x3), (4, .int x4)] lv [.int s0, .ref s1] m (dc_sub_cons f0 (dc_sub_cons f1 (dc_sub_cons f2 (dc_sub_cons f3 (dc_sub_cons f4 (dc_sub_nil)))))) ?_) (Nat.le_succ N)
  unfold d_X10_layBacks_b185
  refine dg_m (pc' := 188) (dc_wi m s1 45 s0) [] rfl (fun _ => rfl) rfl ?_
  refine dg_s (pc' := 189) [.ref x0] rfl (fun _ => rfl) rfl ?_
  refine dg_s (pc' := 190) [.ref x0, .ref x0] rfl (fun _ => rfl) rfl ?_
  refine dg_s (pc' := 193) [.int ((dc_wi m s1 45 s0).1 x0 43), .ref x0] rfl (fun _ => rfl) rfl ?_
  refine dw_if (fun t => Φ t) (¬ (Int32.toInt ((dc_wi m s1 45 s0).1 x0 43)) = 0) [.ref x0] 201 196 rfl (fun _ => rfl) (fun c0 => ?_) (fun c0 => ?_)
  · refine dw_g rfl ?_
    refine dg_s (pc' := 202) [.ref x0, .ref x0] rfl (fun _ => rfl) rfl ?_
    refine dg_s (pc' := 205) [.int ((dc_wi m s1 45 s0).1 x0 46), .ref x0] rfl (fun _ => rfl) rfl ?_
    refine dg_m (pc' := 208) (dc_wi (dc_wi m s1 45 s0) x0 46 ((dc_wi m s1 45 s0).1 x0 46)) [] rfl (fun _ => rfl) rfl ?_
    refine dg_s (pc' := 209) [.ref x0] rfl (fun _ => rfl) rfl ?_
    refine dg_s (pc' := 210) [.ref x0, .ref x0] rfl (fun _ => rfl) rfl ?_
    refine dg_s (pc' := 213) [.int ((dc_wi (dc_wi m s1 45 s0) x0 46 ((dc_wi m s1 45 s0).1 x0 46)).1 x0 43), .ref x0] rfl (fun _ => rfl) rfl ?_
    refine dg_s (pc' := 214) [.int (1 : Int32), .int ((dc_wi (dc_wi m s1 45 s0) x0 46 ((dc_wi m s1 45 s0).1 x0 46)).1 x0 43), .ref x0] rfl (fun _ => rfl) rfl ?_
    refine dg_s (pc' := 215) [.int (((dc_wi (dc_wi m s1 45 s0) x0 46 ((dc_wi m s1 45 s0).1 x0 46)).1 x0 43) + (1 : Int32)), .ref x0] rfl (fun _ => rfl) rfl ?_
    refine dg_m (pc' := 218) (dc_wi (dc_wi (dc_wi m s1 45 s0) x0 46 ((dc_wi m s1 45 s0).1 x0 46)) x0 43 (((dc_wi (dc_wi m s1 45 s0) x0 46 ((dc_wi m s1 45 s0).1 x0 46)).1 x0 43) + (1 : Int32))) [] rfl (fun _ => rfl) rfl ?_
    refine dg_L (pc' := 221) [(4, .int (x4 + (1 : Int32))), (0, .ref x0), (1, .int x1), (2, .int x2), (3, .int x3)] [] rfl (fun _ => rfl) rfl ?_
    refine dw_s (pc' := 82) [] rfl (fun _ => rfl) ?_
    exact dw_j rfl (fun lv1 hv => k82 (x4 + (1 : Int32)) (dc_wi (dc_wi (dc_wi m s1 45 s0) x0 46 ((dc_wi m s1 45 s0).1 x0 46)) x0 43 (((dc_wi (dc_wi m s1 45 s0) x0 46 ((dc_wi m s1 45 s0).1 x0 46)).1 x0 43) + (1 : Int32))) lv1 (hv.1 _ rfl) (hv.2.1 _ rfl) (hv.2.2.1 _ rfl) (hv.2.2.2.1 _ rfl) (hv.2.2.2.2.1 _ rfl))
  · refine dw_g rfl ?_
    refine dg_s (pc' := 198) [.int x4, .ref x0] rfl (fun _ => rfl) rfl ?_
    refine dg_s (pc' := 205) [.int x4, .ref x0] rfl (fun _ => rfl) rfl ?_
    refine dg_m (pc' := 208) (dc_wi (dc_wi m s1 45 s0) x0 46 x4) [] rfl (fun _ => rfl) rfl ?_
    refine dg_s (pc' := 209) [.ref x0] rfl (fun _ => rfl) rfl ?_
    refine dg_s (pc' := 210) [.ref x0, .ref x0] rfl (fun _ => rfl) rfl ?_
    refine dg_s (pc' := 213) [.int ((dc_wi (dc_wi m s1 45 s0) x0 46 x4).1 x0 43), .ref x0] rfl (fun _ => rfl) rfl ?_
    refine dg_s (pc' := 214) [.int (1 : Int32), .int ((dc_wi (dc_wi m s1 45 s0) x0 46 x4).1 x0 43), .ref x0] rfl (fun _ => rfl) rfl ?_
    refine dg_s (pc' := 215) [.int (((dc_wi (dc_wi m s1 45 s0) x0 46 x4).1 x0 43) + (1 : Int32)), .ref x0] rfl (fun _ => rfl) rfl ?_
    refine dg_m (pc' := 218) (dc_wi (dc_wi (dc_wi m s1 45 s0) x0 46 x4) x0 43 (((dc_wi (dc_wi m s1 45 s0) x0 46 x4).1 x0 43) + (1 : Int32))) [] rfl (fun _ => rfl) rfl ?_
    refine dg_L (pc' := 221) [(4, .int (x4 + (1 : Int32))), (0, .ref x0), (1, .int x1), (2, .int x2), (3, .int x3)] [] rfl (fun _ => rfl) rfl ?_
    refine dw_s (pc' := 82) [] rfl (fun _ => rfl) ?_
    exact dw_j rfl (fun lv1 hv => k82 (x4 + (1 : Int32)) (dc_wi (dc_wi (dc_wi m s1 45 s0) x0 46 x4) x0 43 (((dc_wi (dc_wi m s1 45 s0) x0 46 x4).1 x0 43) + (1 : Int32))) lv1 (hv.1 _ rfl) (hv.2.1 _ rfl) (hv.2.2.1 _ rfl) (hv.2.2.2.1 _ rfl) (hv.2.2.2.2.1 _ rfl))
noncomputable def d_X10_layBacks_b166 (x0 : Nat) (x1 : Int32) (x2 : Int32) (x3 : Int32) (x4 : Int32) (s0 : Int32) (s1 : Nat) (m : dc_M) : Option ((Int32 × dc_M) ⊕ ((Int32 × dc_M) ⊕ ((Int32 × dc_M) ⊕ dc_M))) :=
  (if ¬ (Int32.toInt ((dc_wi m s1 44 s0).1 x0 43)) = 0 then (d_X10_layBacks_b185 x0 x1 x2 x3 x4 ((dc_wi m s1 44 s0).1 x0 45) x0 (dc_wi m s1 44 s0)) else (d_X10_layBacks_b185 x0 x1 x2 x3 x4 x2 x0 (dc_wi m s1 44 s0)))
set_option maxHeartbeats 8000000 in
theorem k_X10_layBacks_b166 {u : Nat} {N : Nat} {Φ : (Option ((Int32 × dc_M) ⊕ ((Int32 × dc_M) ⊕ ((Int32 × dc_M) ⊕ dc_M)))) → Option Value → dc_M → Prop} (x0 : Nat) (x1 : Int32) (x2 : Int32) (x3 : Int32) (x4 : Int32) (s0 : Int32) (s1 : Nat) (m : dc_M) (kR : ∀  (m : dc_M), Φ (some (Sum.inr (Sum.inr (Sum.inr (m))))) (none) m) (k82 : ∀ (x4 : Int32) (m : dc_M) (lv : ab_L), ab_lk lv 0 = some (.ref x0) → ab_lk lv 1 = some (.int x1) → ab_lk lv 2 = some (.int x2) → ab_lk lv 3 = some (.int x3) → ab_lk lv 4 = some (.int x4) →  dc_pv u N ab_M_X10_layBacks 82 lv [] m (Φ (some (Sum.inl (x4, m))))) (k35 : ∀ (x2 : Int32) (m : dc_M) (lv : ab_L), ab_lk lv 0 = some (.ref x0) → ab_lk lv 1 = some (.int x1) → ab_lk lv 2 = some (.int x2) →  dc_pv u N ab_M_X10_layBacks 35 lv [] m (Φ (some (Sum.inr (Sum.inl (x2, m)))))) (k25 : ∀ (x1 : Int32) (m : dc_M) (lv : ab_L), ab_lk lv 0 = some (.ref x0) → ab_lk lv 1 = some (.int x1) →  dc_pv u N ab_M_X10_layBacks 25 lv [] m (Φ (some (Sum.inr (Sum.inr (Sum.inl (x1, m))))))) {lv : ab_L} (f0 : ab_lk lv 0 = some (.ref x0)) (f1 : ab_lk lv 1 = some (.int x1)) (f2 : ab_lk lv 2 = some (.int x2)) (f3 : ab_lk lv 3 = some (.int x3)) (f4 : ab_lk lv 4 = some (.int x4)) : dc_pv u N ab_M_X10_layBacks 166 lv [.int s0, .ref s1] m (Φ (d_X10_layBacks_b166 x0 x1 x2 x3 x4 s0 s1 m)) := by
  refine dc_pv.mono (dc_ok (C := C_X10_layBacks) (S := S_X10_layBacks) CO_X10_layBacks 400 166 [(0, .ref x0), (1, .int x1), (2, .int x2), (3, .int x3), (4, .int x4)] lv [.int s0, .ref s1] m (dc_sub_cons f0 (dc_sub_cons f1 (dc_sub_cons f2 (dc_sub_cons f3 (dc_sub_cons f4 (dc_sub_nil)))))) ?_) (Nat.le_succ N)
  unfold d_X10_layBacks_b166
  refine dg_m (pc' := 169) (dc_wi m s1 44 s0) [] rfl (fun _ => rfl) rfl ?_
  refine dg_s (pc' := 170) [.ref x0] rfl (fun _ => rfl) rfl ?_
  refine dg_s (pc' := 171) [.ref x0, .ref x0] rfl (fun _ => rfl) rfl ?_
  refine dg_s (pc' := 174) [.int ((dc_wi m s1 44 s0).1 x0 43), .ref x0] rfl (fun _ => rfl) rfl ?_
  refine dw_if (fun t => Φ t) (¬ (Int32.toInt ((dc_wi m s1 44 s0).1 x0 43)) = 0) [.ref x0] 181 177 rfl (fun _ => rfl) (fun c0 => ?_) (fun c0 => ?_)
  · refine dw_g rfl ?_
    refine dg_s (pc' := 182) [.ref x0, .ref x0] rfl (fun _ => rfl) rfl ?_
    refine dw_s (pc' := 185) [.int ((dc_wi m s1 44 s0).1 x0 45), .ref x0] rfl (fun _ => rfl) ?_
    exact dw_j rfl (fun lv1 hv => k_X10_layBacks_b185 (Φ := (fun t => Φ t)) x0 x1 x2 x3 x4 ((dc_wi m s1 44 s0).1 x0 45) x0 (dc_wi m s1 44 s0) (fun _b => kR _b) k82 k35 k25 (hv.1 _ rfl) (hv.2.1 _ rfl) (hv.2.2.1 _ rfl) (hv.2.2.2.1 _ rfl) (hv.2.2.2.2.1 _ rfl))
  · refine dw_g rfl ?_
    refine dg_s (pc' := 178) [.int x2, .ref x0] rfl (fun _ => rfl) rfl ?_
    refine dw_s (pc' := 185) [.int x2, .ref x0] rfl (fun _ => rfl) ?_
    exact dw_j rfl (fun lv1 hv => k_X10_layBacks_b185 (Φ := (fun t => Φ t)) x0 x1 x2 x3 x4 x2 x0 (dc_wi m s1 44 s0) (fun _b => kR _b) k82 k35 k25 (hv.1 _ rfl) (hv.2.1 _ rfl) (hv.2.2.1 _ rfl) (hv.2.2.2.1 _ rfl) (hv.2.2.2.2.1 _ rfl))
noncomputable def d_X10_layBacks_l82b (x0 : Nat) (x1 : Int32) (x2 : Int32) (x3 : Int32) (x4 : Int32) (m : dc_M) : Option ((Int32 × dc_M) ⊕ ((Int32 × dc_M) ⊕ ((Int32 × dc_M) ⊕ dc_M))) :=
  (if (Int32.toInt (m.1 x0 3)) ≤ (Int32.toInt x4) then some (Sum.inr (Sum.inl ((x2 + (1 : Int32)), m))) else (if (Int32.toInt x3) = 0 then some (Sum.inr (Sum.inl ((x2 + (1 : Int32)), m))) else (if (Int32.toInt (m.1 (x0 + 18) (Int32.toNatClampNeg (((16 : Int32) * x1) + x4)))) = (-4) then some (Sum.inl ((x4 + (1 : Int32)), m)) else (if (Int32.toInt (m.1 (x0 + 3) (Int32.toNatClampNeg x4))) = (Int32.toInt (m.1 (x0 + 3) (Int32.toNatClampNeg x2))) then some (Sum.inl ((x4 + (1 : Int32)), m)) else ((d_X10_excited x0 (m.1 (x0 + 18) (Int32.toNatClampNeg (((16 : Int32) * x1) + x4))) m).bind (fun q1 => (if ¬ (Int32.toInt ((q1 >>> ((m.1 (x0 + 3) (Int32.toNatClampNeg x2)) &&& 31)) &&& (1 : Int32))) = 0 then some (Sum.inl ((x4 + (1 : Int32)), m)) else (if ¬ (Int32.toInt (m.1 x0 43)) = 0 then (d_X10_layBacks_b166 x0 x1 x2 x3 x4 (m.1 x0 44) x0 m) else (d_X10_layBacks_b166 x0 x1 x2 x3 x4 x1 x0 m)))))))))
noncomputable def d_X10_layBacks_l82s (x0 : Nat) (x1 : Int32) (x2 : Int32) (x3 : Int32) : (Int32 × dc_M) → Option ((Int32 × dc_M) ⊕ ((Int32 × dc_M) ⊕ ((Int32 × dc_M) ⊕ dc_M))) := fun s => d_X10_layBacks_l82b x0 x1 x2 x3 s.1 s.2
noncomputable def d_X10_layBacks_l82 (x0 : Nat) (x1 : Int32) (x2 : Int32) (x3 : Int32) (x4 : Int32) (m : dc_M) : Option ((Int32 × dc_M) ⊕ ((Int32 × dc_M) ⊕ dc_M)) := dc_lp (d_X10_layBacks_l82s x0 x1 x2 x3) (x4, m)
set_option maxHeartbeats 8000000 in
theorem k_X10_layBacks_l82 {u : Nat} {Φ : (Option ((Int32 × dc_M) ⊕ ((Int32 × dc_M) ⊕ dc_M))) → Option Value → dc_M → Prop} (x0 : Nat) (x1 : Int32) (x2 : Int32) (x3 : Int32) (kR : ∀  (m : dc_M), Φ (some (Sum.inr (Sum.inr (m)))) (none) m) : ∀ (N : Nat), (∀ (x2 : Int32) (m : dc_M) (lv : ab_L), ab_lk lv 0 = some (.ref x0) → ab_lk lv 1 = some (.int x1) → ab_lk lv 2 = some (.int x2) →  dc_pv u N ab_M_X10_layBacks 35 lv [] m (Φ (some (Sum.inl (x2, m))))) → (∀ (x1 : Int32) (m : dc_M) (lv : ab_L), ab_lk lv 0 = some (.ref x0) → ab_lk lv 1 = some (.int x1) →  dc_pv u N ab_M_X10_layBacks 25 lv [] m (Φ (some (Sum.inr (Sum.inl (x1, m)))))) → ∀ (x4 : Int32) (m : dc_M) (lv : ab_L), ab_lk lv 0 = some (.ref x0) → ab_lk lv 1 = some (.int x1) → ab_lk lv 2 = some (.int x2) → ab_lk lv 3 = some (.int x3) → ab_lk lv 4 = some (.int x4) → dc_pv u N ab_M_X10_layBacks 82 lv [] m (Φ (d_X10_layBacks_l82 x0 x1 x2 x3 x4 m)) := by
  intro N
  induction N with
  | zero => intros; exact dc_pv_zero
  | succ N ih =>
    intro k35 k25 x4 m lv f0 f1 f2 f3 f4
    have k35 := fun a0 a1 a2 a3 a4 a5 => (k35 a0 a1 a2 a3 a4 a5).mono (Nat.le_succ N)
    have k25 := fun a0 a1 a2 a3 a4 => (k25 a0 a1 a2 a3 a4).mono (Nat.le_succ N)
    have ih := ih k35 k25
    refine dc_ok (C := C_X10_layBacks) (S := S_X10_layBacks) CO_X10_layBacks 400 82 [(0, .ref x0), (1, .int x1), (2, .int x2), (3, .int x3), (4, .int x4)] lv [] m (dc_sub_cons f0 (dc_sub_cons f1 (dc_sub_cons f2 (dc_sub_cons f3 (dc_sub_cons f4 (dc_sub_nil)))))) ?_
    unfold d_X10_layBacks_l82
    rw [dc_lp_eq]
    show (fun t x => dc_lf u N ab_M_X10_layBacks (Φ (Option.bind t (dc_bk (d_X10_layBacks_l82s x0 x1 x2 x3)))) x) (d_X10_layBacks_l82b x0 x1 x2 x3 x4 m) _
    dsimp only
    unfold d_X10_layBacks_l82b
    refine dg_s (pc' := 84) [.int x4] rfl (fun _ => rfl) rfl ?_
    refine dg_s (pc' := 85) [.ref x0, .int x4] rfl (fun _ => rfl) rfl ?_
    refine dg_s (pc' := 88) [.int (m.1 x0 3), .int x4] rfl (fun _ => rfl) rfl ?_
    refine dw_if (fun t => Φ (Option.bind t (dc_bk (d_X10_layBacks_l82s x0 x1 x2 x3)))) ((Int32.toInt (m.1 x0 3)) ≤ (Int32.toInt x4)) [] 224 91 rfl (fun _ => rfl) (fun c0 => ?_) (fun c0 => ?_)
    · refine dw_g rfl ?_
      refine dg_L (pc' := 227) [(2, .int (x2 + (1 : Int32))), (0, .ref x0), (1, .int x1), (3, .int x3), (4, .int x4)] [] rfl (fun _ => rfl) rfl ?_
      refine dw_s (pc' := 35) [] rfl (fun _ => rfl) ?_
      exact dw_j rfl (fun lv1 hv => k35 (x2 + (1 : Int32)) m lv1 (hv.1 _ rfl) (hv.2.1 _ rfl) (hv.2.2.1 _ rfl))
    · refine dw_g rfl ?_
      refine dg_s (pc' := 92) [.int x3] rfl (fun _ => rfl) rfl ?_
      refine dw_if (fun t => Φ (Option.bind t (dc_bk (d_X10_layBacks_l82s x0 x1 x2 x3)))) ((Int32.toInt x3) = 0) [] 224 95 rfl (fun _ => rfl) (fun c1 => ?_) (fun c1 => ?_)
      · refine dw_g rfl ?_
        refine dg_L (pc' := 227) [(2, .int (x2 + (1 : Int32))), (0, .ref x0), (1, .int x1), (3, .int x3), (4, .int x4)] [] rfl (fun _ => rfl) rfl ?_
        refine dw_s (pc' := 35) [] rfl (fun _ => rfl) ?_
        exact dw_j rfl (fun lv1 hv => k35 (x2 + (1 : Int32)) m lv1 (hv.1 _ rfl) (hv.2.1 _ rfl) (hv.2.2.1 _ rfl))
      · refine dw_g rfl ?_
        refine dg_s (pc' := 96) [.ref x0] rfl (fun _ => rfl) rfl ?_
        refine dg_s (pc' := 99) [.ref (x0 + 18)] rfl (fun _ => rfl) rfl ?_
        refine dg_s (pc' := 101) [.int (16 : Int32), .ref (x0 + 18)] rfl (fun _ => rfl) rfl ?_
        refine dg_s (pc' := 102) [.int x1, .int (16 : Int32), .ref (x0 + 18)] rfl (fun _ => rfl) rfl ?_
        refine dg_s (pc' := 103) [.int ((16 : Int32) * x1), .ref (x0 + 18)] rfl (fun _ => rfl) rfl ?_
        refine dg_s (pc' := 105) [.int x4, .int ((16 : Int32) * x1), .ref (x0 + 18)] rfl (fun _ => rfl) rfl ?_
        refine dg_s (pc' := 106) [.int (((16 : Int32) * x1) + x4), .ref (x0 + 18)] rfl (fun _ => rfl) rfl ?_
        refine dg_s (pc' := 107) [.int (m.1 (x0 + 18) (Int32.toNatClampNeg (((16 : Int32) * x1) + x4)))] rfl (fun _ => rfl) rfl ?_
        refine dg_L (pc' := 109) [(5, .int (m.1 (x0 + 18) (Int32.toNatClampNeg (((16 : Int32) * x1) + x4)))), (0, .ref x0), (1, .int x1), (2, .int x2), (3, .int x3), (4, .int x4)] [] rfl (fun _ => rfl) rfl ?_
        refine dg_s (pc' := 111) [.int (m.1 (x0 + 18) (Int32.toNatClampNeg (((16 : Int32) * x1) + x4)))] rfl (fun _ => rfl) rfl ?_
        refine dg_s (pc' := 113) [.int (-4 : Int32), .int (m.1 (x0 + 18) (Int32.toNatClampNeg (((16 : Int32) * x1) + x4)))] rfl (fun _ => rfl) rfl ?_
        refine dw_if (fun t => Φ (Option.bind t (dc_bk (d_X10_layBacks_l82s x0 x1 x2 x3)))) ((Int32.toInt (m.1 (x0 + 18) (Int32.toNatClampNeg (((16 : Int32) * x1) + x4)))) = (-4)) [] 218 116 rfl (fun _ => rfl) (fun c2 => ?_) (fun c2 => ?_)
        · refine dw_g rfl ?_
          refine dg_L (pc' := 221) [(4, .int (x4 + (1 : Int32))), (5, .int (m.1 (x0 + 18) (Int32.toNatClampNeg (((16 : Int32) * x1) + x4)))), (0, .ref x0), (1, .int x1), (2, .int x2), (3, .int x3)] [] rfl (fun _ => rfl) rfl ?_
          refine dw_s (pc' := 82) [] rfl (fun _ => rfl) ?_
          exact dw_j rfl (fun lv1 hv => ih (x4 + (1 : Int32)) m lv1 (hv.1 _ rfl) (hv.2.1 _ rfl) (hv.2.2.1 _ rfl) (hv.2.2.2.1 _ rfl) (hv.2.2.2.2.1 _ rfl))
        · refine dw_g rfl ?_
          refine dg_s (pc' := 117) [.ref x0] rfl (fun _ => rfl) rfl ?_
          refine dg_s (pc' := 120) [.ref (x0 + 3)] rfl (fun _ => rfl) rfl ?_
          refine dg_s (pc' := 122) [.int x4, .ref (x0 + 3)] rfl (fun _ => rfl) rfl ?_
          refine dg_s (pc' := 123) [.int (m.1 (x0 + 3) (Int32.toNatClampNeg x4))] rfl (fun _ => rfl) rfl ?_
          refine dg_s (pc' := 124) [.ref x0, .int (m.1 (x0 + 3) (Int32.toNatClampNeg x4))] rfl (fun _ => rfl) rfl ?_
          refine dg_s (pc' := 127) [.ref (x0 + 3), .int (m.1 (x0 + 3) (Int32.toNatClampNeg x4))] rfl (fun _ => rfl) rfl ?_
          refine dg_s (pc' := 128) [.int x2, .ref (x0 + 3), .int (m.1 (x0 + 3) (Int32.toNatClampNeg x4))] rfl (fun _ => rfl) rfl ?_
          refine dg_s (pc' := 129) [.int (m.1 (x0 + 3) (Int32.toNatClampNeg x2)), .int (m.1 (x0 + 3) (Int32.toNatClampNeg x4))] rfl (fun _ => rfl) rfl ?_
          refine dw_if (fun t => Φ (Option.bind t (dc_bk (d_X10_layBacks_l82s x0 x1 x2 x3)))) ((Int32.toInt (m.1 (x0 + 3) (Int32.toNatClampNeg x4))) = (Int32.toInt (m.1 (x0 + 3) (Int32.toNatClampNeg x2)))) [] 218 132 rfl (fun _ => rfl) (fun c3 => ?_) (fun c3 => ?_)
          · refine dw_g rfl ?_
            refine dg_L (pc' := 221) [(4, .int (x4 + (1 : Int32))), (5, .int (m.1 (x0 + 18) (Int32.toNatClampNeg (((16 : Int32) * x1) + x4)))), (0, .ref x0), (1, .int x1), (2, .int x2), (3, .int x3)] [] rfl (fun _ => rfl) rfl ?_
            refine dw_s (pc' := 82) [] rfl (fun _ => rfl) ?_
            exact dw_j rfl (fun lv1 hv => ih (x4 + (1 : Int32)) m lv1 (hv.1 _ rfl) (hv.2.1 _ rfl) (hv.2.2.1 _ rfl) (hv.2.2.2.1 _ rfl) (hv.2.2.2.2.1 _ rfl))
          · refine dw_g rfl ?_
            refine dg_s (pc' := 133) [.ref x0] rfl (fun _ => rfl) rfl ?_
            refine dg_s (pc' := 135) [.int (m.1 (x0 + 18) (Int32.toNatClampNeg (((16 : Int32) * x1) + x4))), .ref x0] rfl (fun _ => rfl) rfl ?_
            refine dw_b (fun t => Φ (Option.bind t (dc_bk (d_X10_layBacks_l82s x0 x1 x2 x3)))) (pc' := 138) (fun q1 => [.int q1]) (fun q1 => m) rfl (fun _ => rfl) (fun q1 => ?_)
            refine dw_g rfl ?_
            refine dg_s (pc' := 139) [.ref x0, .int q1] rfl (fun _ => rfl) rfl ?_
            refine dg_s (pc' := 142) [.ref (x0 + 3), .int q1] rfl (fun _ => rfl) rfl ?_
            refine dg_s (pc' := 143) [.int x2, .ref (x0 + 3), .int q1] rfl (fun _ => rfl) rfl ?_
            refine dg_s (pc' := 144) [.int (m.1 (x0 + 3) (Int32.toNatClampNeg x2)), .int q1] rfl (fun _ => rfl) rfl ?_
            refine dg_s (pc' := 145) [.int (q1 >>> ((m.1 (x0 + 3) (Int32.toNatClampNeg x2)) &&& 31))] rfl (fun _ => rfl) rfl ?_
            refine dg_s (pc' := 146) [.int (1 : Int32), .int (q1 >>> ((m.1 (x0 + 3) (Int32.toNatClampNeg x2)) &&& 31))] rfl (fun _ => rfl) rfl ?_
            refine dg_s (pc' := 147) [.int ((q1 >>> ((m.1 (x0 + 3) (Int32.toNatClampNeg x2)) &&& 31)) &&& (1 : Int32))] rfl (fun _ => rfl) rfl ?_
            refine dw_if (fun t => Φ (Option.bind t (dc_bk (d_X10_layBacks_l82s x0 x1 x2 x3)))) (¬ (Int32.toInt ((q1 >>> ((m.1 (x0 + 3) (Int32.toNatClampNeg x2)) &&& 31)) &&& (1 : Int32))) = 0) [] 218 150 rfl (fun _ => rfl) (fun c4 => ?_) (fun c4 => ?_)
            · refine dw_g rfl ?_
              refine dg_L (pc' := 221) [(4, .int (x4 + (1 : Int32))), (5, .int (m.1 (x0 + 18) (Int32.toNatClampNeg (((16 : Int32) * x1) + x4)))), (0, .ref x0), (1, .int x1), (2, .int x2), (3, .int x3)] [] rfl (fun _ => rfl) rfl ?_
              refine dw_s (pc' := 82) [] rfl (fun _ => rfl) ?_
              exact dw_j rfl (fun lv1 hv => ih (x4 + (1 : Int32)) m lv1 (hv.1 _ rfl) (hv.2.1 _ rfl) (hv.2.2.1 _ rfl) (hv.2.2.2.1 _ rfl) (hv.2.2.2.2.1 _ rfl))
            · refine dw_g rfl ?_
              refine dg_s (pc' := 151) [.ref x0] rfl (fun _ => rfl) rfl ?_
              refine dg_s (pc' := 152) [.ref x0, .ref x0] rfl (fun _ => rfl) rfl ?_
              refine dg_s (pc' := 155) [.int (m.1 x0 43), .ref x0] rfl (fun _ => rfl) rfl ?_
              refine dw_if (fun t => Φ (Option.bind t (dc_bk (d_X10_layBacks_l82s x0 x1 x2 x3)))) (¬ (Int32.toInt (m.1 x0 43)) = 0) [.ref x0] 162 158 rfl (fun _ => rfl) (fun c5 => ?_) (fun c5 => ?_)
              · refine dw_g rfl ?_
                refine dg_s (pc' := 163) [.ref x0, .ref x0] rfl (fun _ => rfl) rfl ?_
                refine dw_s (pc' := 166) [.int (m.1 x0 44), .ref x0] rfl (fun _ => rfl) ?_
                exact dw_j rfl (fun lv1 hv => k_X10_layBacks_b166 (Φ := (fun t => Φ (Option.bind t (dc_bk (d_X10_layBacks_l82s x0 x1 x2 x3))))) x0 x1 x2 x3 x4 (m.1 x0 44) x0 m (fun _b => kR _b) ih k35 k25 (hv.1 _ rfl) (hv.2.1 _ rfl) (hv.2.2.1 _ rfl) (hv.2.2.2.1 _ rfl) (hv.2.2.2.2.1 _ rfl))
              · refine dw_g rfl ?_
                refine dg_s (pc' := 159) [.int x1, .ref x0] rfl (fun _ => rfl) rfl ?_
                refine dw_s (pc' := 166) [.int x1, .ref x0] rfl (fun _ => rfl) ?_
                exact dw_j rfl (fun lv1 hv => k_X10_layBacks_b166 (Φ := (fun t => Φ (Option.bind t (dc_bk (d_X10_layBacks_l82s x0 x1 x2 x3))))) x0 x1 x2 x3 x4 x1 x0 m (fun _b => kR _b) ih k35 k25 (hv.1 _ rfl) (hv.2.1 _ rfl) (hv.2.2.1 _ rfl) (hv.2.2.2.1 _ rfl) (hv.2.2.2.2.1 _ rfl))
noncomputable def d_X10_layBacks_l35b (x0 : Nat) (x1 : Int32) (x2 : Int32) (m : dc_M) : Option ((Int32 × dc_M) ⊕ ((Int32 × dc_M) ⊕ dc_M)) :=
  (if (Int32.toInt (m.1 x0 3)) ≤ (Int32.toInt x2) then some (Sum.inr (Sum.inl ((x1 + (1 : Int32)), m))) else (if (Int32.toInt (m.1 (x0 + 18) (Int32.toNatClampNeg (((16 : Int32) * x1) + x2)))) = (-4) then (d_X10_layBacks_l82 x0 x1 x2 (0 : Int32) (0 : Int32) m) else (if (Int32.toInt (m.1 (x0 + 2) (Int32.toNatClampNeg (m.1 (x0 + 3) (Int32.toNatClampNeg x2))))) ≤ 0 then (d_X10_layBacks_l82 x0 x1 x2 (0 : Int32) (0 : Int32) m) else (d_X10_layBacks_l82 x0 x1 x2 (1 : Int32) (0 : Int32) m))))
noncomputable def d_X10_layBacks_l35s (x0 : Nat) (x1 : Int32) : (Int32 × dc_M) → Option ((Int32 × dc_M) ⊕ ((Int32 × dc_M) ⊕ dc_M)) := fun s => d_X10_layBacks_l35b x0 x1 s.1 s.2
noncomputable def d_X10_layBacks_l35 (x0 : Nat) (x1 : Int32) (x2 : Int32) (m : dc_M) : Option ((Int32 × dc_M) ⊕ dc_M) := dc_lp (d_X10_layBacks_l35s x0 x1) (x2, m)
set_option maxHeartbeats 8000000 in
theorem k_X10_layBacks_l35 {u : Nat} {Φ : (Option ((Int32 × dc_M) ⊕ dc_M)) → Option Value → dc_M → Prop} (x0 : Nat) (x1 : Int32) (kR : ∀  (m : dc_M), Φ (some (Sum.inr (m))) (none) m) : ∀ (N : Nat), (∀ (x1 : Int32) (m : dc_M) (lv : ab_L), ab_lk lv 0 = some (.ref x0) → ab_lk lv 1 = some (.int x1) →  dc_pv u N ab_M_X10_layBacks 25 lv [] m (Φ (some (Sum.inl (x1, m))))) → ∀ (x2 : Int32) (m : dc_M) (lv : ab_L), ab_lk lv 0 = some (.ref x0) → ab_lk lv 1 = some (.int x1) → ab_lk lv 2 = some (.int x2) → dc_pv u N ab_M_X10_layBacks 35 lv [] m (Φ (d_X10_layBacks_l35 x0 x1 x2 m)) := by
  intro N
  induction N with
  | zero => intros; exact dc_pv_zero
  | succ N ih =>
    intro k25 x2 m lv f0 f1 f2
    have k25 := fun a0 a1 a2 a3 a4 => (k25 a0 a1 a2 a3 a4).mono (Nat.le_succ N)
    have ih := ih k25
    refine dc_ok (C := C_X10_layBacks) (S := S_X10_layBacks) CO_X10_layBacks 400 35 [(0, .ref x0), (1, .int x1), (2, .int x2)] lv [] m (dc_sub_cons f0 (dc_sub_cons f1 (dc_sub_cons f2 (dc_sub_nil)))) ?_
    unfold d_X10_layBacks_l35
    rw [dc_lp_eq]
    show (fun t x => dc_lf u N ab_M_X10_layBacks (Φ (Option.bind t (dc_bk (d_X10_layBacks_l35s x0 x1)))) x) (d_X10_layBacks_l35b x0 x1 x2 m) _
    dsimp only
    unfold d_X10_layBacks_l35b
    refine dg_s (pc' := 36) [.int x2] rfl (fun _ => rfl) rfl ?_
    refine dg_s (pc' := 37) [.ref x0, .int x2] rfl (fun _ => rfl) rfl ?_
    refine dg_s (pc' := 40) [.int (m.1 x0 3), .int x2] rfl (fun _ => rfl) rfl ?_
    refine dw_if (fun t => Φ (Option.bind t (dc_bk (d_X10_layBacks_l35s x0 x1)))) ((Int32.toInt (m.1 x0 3)) ≤ (Int32.toInt x2)) [] 230 43 rfl (fun _ => rfl) (fun c0 => ?_) (fun c0 => ?_)
    · refine dw_g rfl ?_
      refine dg_L (pc' := 233) [(1, .int (x1 + (1 : Int32))), (0, .ref x0), (2, .int x2)] [] rfl (fun _ => rfl) rfl ?_
      refine dw_s (pc' := 25) [] rfl (fun _ => rfl) ?_
      exact dw_j rfl (fun lv1 hv => k25 (x1 + (1 : Int32)) m lv1 (hv.1 _ rfl) (hv.2.1 _ rfl))
    · refine dw_g rfl ?_
      refine dg_s (pc' := 44) [.ref x0] rfl (fun _ => rfl) rfl ?_
      refine dg_s (pc' := 47) [.ref (x0 + 18)] rfl (fun _ => rfl) rfl ?_
      refine dg_s (pc' := 49) [.int (16 : Int32), .ref (x0 + 18)] rfl (fun _ => rfl) rfl ?_
      refine dg_s (pc' := 50) [.int x1, .int (16 : Int32), .ref (x0 + 18)] rfl (fun _ => rfl) rfl ?_
      refine dg_s (pc' := 51) [.int ((16 : Int32) * x1), .ref (x0 + 18)] rfl (fun _ => rfl) rfl ?_
      refine dg_s (pc' := 52) [.int x2, .int ((16 : Int32) * x1), .ref (x0 + 18)] rfl (fun _ => rfl) rfl ?_
      refine dg_s (pc' := 53) [.int (((16 : Int32) * x1) + x2), .ref (x0 + 18)] rfl (fun _ => rfl) rfl ?_
      refine dg_s (pc' := 54) [.int (m.1 (x0 + 18) (Int32.toNatClampNeg (((16 : Int32) * x1) + x2)))] rfl (fun _ => rfl) rfl ?_
      refine dg_s (pc' := 56) [.int (-4 : Int32), .int (m.1 (x0 + 18) (Int32.toNatClampNeg (((16 : Int32) * x1) + x2)))] rfl (fun _ => rfl) rfl ?_
      refine dw_if (fun t => Φ (Option.bind t (dc_bk (d_X10_layBacks_l35s x0 x1)))) ((Int32.toInt (m.1 (x0 + 18) (Int32.toNatClampNeg (((16 : Int32) * x1) + x2)))) = (-4)) [] 77 59 rfl (fun _ => rfl) (fun c1 => ?_) (fun c1 => ?_)
      · refine dw_g rfl ?_
        refine dg_s (pc' := 78) [.int (0 : Int32)] rfl (fun _ => rfl) rfl ?_
        refine dg_L (pc' := 79) [(3, .int (0 : Int32)), (0, .ref x0), (1, .int x1), (2, .int x2)] [] rfl (fun _ => rfl) rfl ?_
        refine dg_s (pc' := 80) [.int (0 : Int32)] rfl (fun _ => rfl) rfl ?_
        refine dw_L (pc' := 82) [(4, .int (0 : Int32)), (3, .int (0 : Int32)), (0, .ref x0), (1, .int x1), (2, .int x2)] [] rfl (fun _ => rfl) ?_
        exact dw_j rfl (fun lv1 hv => k_X10_layBacks_l82 (Φ := (fun t => Φ (Option.bind t (dc_bk (d_X10_layBacks_l35s x0 x1))))) x0 x1 x2 (0 : Int32) (fun _b => kR _b) N ih k25 (0 : Int32) m lv1 (hv.1 _ rfl) (hv.2.1 _ rfl) (hv.2.2.1 _ rfl) (hv.2.2.2.1 _ rfl) (hv.2.2.2.2.1 _ rfl))
      · refine dw_g rfl ?_
        refine dg_s (pc' := 60) [.ref x0] rfl (fun _ => rfl) rfl ?_
        refine dg_s (pc' := 63) [.ref (x0 + 2)] rfl (fun _ => rfl) rfl ?_
        refine dg_s (pc' := 64) [.ref x0, .ref (x0 + 2)] rfl (fun _ => rfl) rfl ?_
        refine dg_s (pc' := 67) [.ref (x0 + 3), .ref (x0 + 2)] rfl (fun _ => rfl) rfl ?_
        refine dg_s (pc' := 68) [.int x2, .ref (x0 + 3), .ref (x0 + 2)] rfl (fun _ => rfl) rfl ?_
        refine dg_s (pc' := 69) [.int (m.1 (x0 + 3) (Int32.toNatClampNeg x2)), .ref (x0 + 2)] rfl (fun _ => rfl) rfl ?_
        refine dg_s (pc' := 70) [.int (m.1 (x0 + 2) (Int32.toNatClampNeg (m.1 (x0 + 3) (Int32.toNatClampNeg x2))))] rfl (fun _ => rfl) rfl ?_
        refine dw_if (fun t => Φ (Option.bind t (dc_bk (d_X10_layBacks_l35s x0 x1)))) ((Int32.toInt (m.1 (x0 + 2) (Int32.toNatClampNeg (m.1 (x0 + 3) (Int32.toNatClampNeg x2))))) ≤ 0) [] 77 73 rfl (fun _ => rfl) (fun c2 => ?_) (fun c2 => ?_)
        · refine dw_g rfl ?_
          refine dg_s (pc' := 78) [.int (0 : Int32)] rfl (fun _ => rfl) rfl ?_
          refine dg_L (pc' := 79) [(3, .int (0 : Int32)), (0, .ref x0), (1, .int x1), (2, .int x2)] [] rfl (fun _ => rfl) rfl ?_
          refine dg_s (pc' := 80) [.int (0 : Int32)] rfl (fun _ => rfl) rfl ?_
          refine dw_L (pc' := 82) [(4, .int (0 : Int32)), (3, .int (0 : Int32)), (0, .ref x0), (1, .int x1), (2, .int x2)] [] rfl (fun _ => rfl) ?_
          exact dw_j rfl (fun lv1 hv => k_X10_layBacks_l82 (Φ := (fun t => Φ (Option.bind t (dc_bk (d_X10_layBacks_l35s x0 x1))))) x0 x1 x2 (0 : Int32) (fun _b => kR _b) N ih k25 (0 : Int32) m lv1 (hv.1 _ rfl) (hv.2.1 _ rfl) (hv.2.2.1 _ rfl) (hv.2.2.2.1 _ rfl) (hv.2.2.2.2.1 _ rfl))
        · refine dw_g rfl ?_
          refine dg_s (pc' := 74) [.int (1 : Int32)] rfl (fun _ => rfl) rfl ?_
          refine dg_s (pc' := 78) [.int (1 : Int32)] rfl (fun _ => rfl) rfl ?_
          refine dg_L (pc' := 79) [(3, .int (1 : Int32)), (0, .ref x0), (1, .int x1), (2, .int x2)] [] rfl (fun _ => rfl) rfl ?_
          refine dg_s (pc' := 80) [.int (0 : Int32)] rfl (fun _ => rfl) rfl ?_
          refine dw_L (pc' := 82) [(4, .int (0 : Int32)), (3, .int (1 : Int32)), (0, .ref x0), (1, .int x1), (2, .int x2)] [] rfl (fun _ => rfl) ?_
          exact dw_j rfl (fun lv1 hv => k_X10_layBacks_l82 (Φ := (fun t => Φ (Option.bind t (dc_bk (d_X10_layBacks_l35s x0 x1))))) x0 x1 x2 (1 : Int32) (fun _b => kR _b) N ih k25 (0 : Int32) m lv1 (hv.1 _ rfl) (hv.2.1 _ rfl) (hv.2.2.1 _ rfl) (hv.2.2.2.1 _ rfl) (hv.2.2.2.2.1 _ rfl))
noncomputable def d_X10_layBacks_l25b (x0 : Nat) (x1 : Int32) (m : dc_M) : Option ((Int32 × dc_M) ⊕ dc_M) :=
  (if (Int32.toInt (m.1 x0 32)) ≤ (Int32.toInt x1) then some (Sum.inr (m)) else (d_X10_layBacks_l35 x0 x1 (0 : Int32) m))
noncomputable def d_X10_layBacks_l25s (x0 : Nat) : (Int32 × dc_M) → Option ((Int32 × dc_M) ⊕ dc_M) := fun s => d_X10_layBacks_l25b x0 s.1 s.2
noncomputable def d_X10_layBacks_l25 (x0 : Nat) (x1 : Int32) (m : dc_M) : Option dc_M := dc_lp (d_X10_layBacks_l25s x0) (x1, m)
set_option maxHeartbeats 8000000 in
theorem k_X10_layBacks_l25 {u : Nat} {Φ : (Option dc_M) → Option Value → dc_M → Prop} (x0 : Nat) (kR : ∀  (m : dc_M), Φ (some (m)) (none) m) : ∀ (N : Nat), ∀ (x1 : Int32) (m : dc_M) (lv : ab_L), ab_lk lv 0 = some (.ref x0) → ab_lk lv 1 = some (.int x1) → dc_pv u N ab_M_X10_layBacks 25 lv [] m (Φ (d_X10_layBacks_l25 x0 x1 m)) := by
  intro N
  induction N with
  | zero => intros; exact dc_pv_zero
  | succ N ih =>
    intro x1 m lv f0 f1
    refine dc_ok (C := C_X10_layBacks) (S := S_X10_layBacks) CO_X10_layBacks 400 25 [(0, .ref x0), (1, .int x1)] lv [] m (dc_sub_cons f0 (dc_sub_cons f1 (dc_sub_nil))) ?_
    unfold d_X10_layBacks_l25
    rw [dc_lp_eq]
    show (fun t x => dc_lf u N ab_M_X10_layBacks (Φ (Option.bind t (dc_bk (d_X10_layBacks_l25s x0)))) x) (d_X10_layBacks_l25b x0 x1 m) _
    dsimp only
    unfold d_X10_layBacks_l25b
    refine dg_s (pc' := 26) [.int x1] rfl (fun _ => rfl) rfl ?_
    refine dg_s (pc' := 27) [.ref x0, .int x1] rfl (fun _ => rfl) rfl ?_
    refine dg_s (pc' := 30) [.int (m.1 x0 32), .int x1] rfl (fun _ => rfl) rfl ?_
    refine dw_if (fun t => Φ (Option.bind t (dc_bk (d_X10_layBacks_l25s x0)))) ((Int32.toInt (m.1 x0 32)) ≤ (Int32.toInt x1)) [] 236 33 rfl (fun _ => rfl) (fun c0 => ?_) (fun c0 => ?_)
    · refine dw_g rfl ?_
      exact dw_r (some (.inl (none, m))) rfl (fun _ => rfl) (kR _)
    · refine dw_g rfl ?_
      refine dg_s (pc' := 34) [.int (0 : Int32)] rfl (fun _ => rfl) rfl ?_
      refine dw_L (pc' := 35) [(2, .int (0 : Int32)), (0, .ref x0), (1, .int x1)] [] rfl (fun _ => rfl) ?_
      exact dw_j rfl (fun lv1 hv => k_X10_layBacks_l35 (Φ := (fun t => Φ (Option.bind t (dc_bk (d_X10_layBacks_l25s x0))))) x0 x1 (fun _b => kR _b) N ih (0 : Int32) m lv1 (hv.1 _ rfl) (hv.2.1 _ rfl) (hv.2.2.1 _ rfl))
noncomputable def d_X10_layBacks (x0 : Nat) (m : dc_M) : Option dc_M :=
  (d_X10_layBacks_l25 x0 (0 : Int32) (dc_wi (dc_wi (dc_wi (dc_wi m x0 43 (0 : Int32)) x0 44 (-4 : Int32)) x0 45 (-4 : Int32)) x0 46 (-4 : Int32)))
set_option maxHeartbeats 8000000 in
theorem k_X10_layBacks {u : Nat} {N : Nat} {Φ : (Option dc_M) → Option Value → dc_M → Prop} (x0 : Nat) (m : dc_M) (kR : ∀  (m : dc_M), Φ (some (m)) (none) m)  {lv : ab_L} (f0 : ab_lk lv 0 = some (.ref x0)) : dc_pv u N ab_M_X10_layBacks 0 lv [] m (Φ (d_X10_layBacks x0 m)) := by
  refine dc_pv.mono (dc_ok (C := C_X10_layBacks) (S := S_X10_layBacks) CO_X10_layBacks 400 0 [(0, .ref x0)] lv [] m (dc_sub_cons f0 (dc_sub_nil)) ?_) (Nat.le_succ N)
  unfold d_X10_layBacks
  refine dg_s (pc' := 1) [.ref x0] rfl (fun _ => rfl) rfl ?_
  refine dg_s (pc' := 2) [.int (0 : Int32), .ref x0] rfl (fun _ => rfl) rfl ?_
  refine dg_m (pc' := 5) (dc_wi m x0 43 (0 : Int32)) [] rfl (fun _ => rfl) rfl ?_
  refine dg_s (pc' := 6) [.ref x0] rfl (fun _ => rfl) rfl ?_
  refine dg_s (pc' := 8) [.int (-4 : Int32), .ref x0] rfl (fun _ => rfl) rfl ?_
  refine dg_m (pc' := 11) (dc_wi (dc_wi m x0 43 (0 : Int32)) x0 44 (-4 : Int32)) [] rfl (fun _ => rfl) rfl ?_
  refine dg_s (pc' := 12) [.ref x0] rfl (fun _ => rfl) rfl ?_
  refine dg_s (pc' := 14) [.int (-4 : Int32), .ref x0] rfl (fun _ => rfl) rfl ?_
  refine dg_m (pc' := 17) (dc_wi (dc_wi (dc_wi m x0 43 (0 : Int32)) x0 44 (-4 : Int32)) x0 45 (-4 : Int32)) [] rfl (fun _ => rfl) rfl ?_
  refine dg_s (pc' := 18) [.ref x0] rfl (fun _ => rfl) rfl ?_
  refine dg_s (pc' := 20) [.int (-4 : Int32), .ref x0] rfl (fun _ => rfl) rfl ?_
  refine dg_m (pc' := 23) (dc_wi (dc_wi (dc_wi (dc_wi m x0 43 (0 : Int32)) x0 44 (-4 : Int32)) x0 45 (-4 : Int32)) x0 46 (-4 : Int32)) [] rfl (fun _ => rfl) rfl ?_
  refine dg_s (pc' := 24) [.int (0 : Int32)] rfl (fun _ => rfl) rfl ?_
  refine dw_L (pc' := 25) [(1, .int (0 : Int32)), (0, .ref x0)] [] rfl (fun _ => rfl) ?_
  exact dw_j rfl (fun lv1 hv => k_X10_layBacks_l25 (Φ := (fun t => Φ t)) x0 (fun _b => kR _b) N  (0 : Int32) (dc_wi (dc_wi (dc_wi (dc_wi m x0 43 (0 : Int32)) x0 44 (-4 : Int32)) x0 45 (-4 : Int32)) x0 46 (-4 : Int32)) lv1 (hv.1 _ rfl) (hv.2.1 _ rfl))
noncomputable def H_X10_layBacks : dc_H := fun As m k => match As with
  | [.ref x0] => (d_X10_layBacks x0 m).bind (fun q => k (none) q)
  | _ => dc_kz
theorem H_X10_layBacks_ok {u : Nat} : dc_cok u 185 H_X10_layBacks := fun M' hG N As m k P hz hP => by
  obtain rfl : ab_M_X10_layBacks = M' := Option.some.inj hG
  unfold H_X10_layBacks at hP
  split at hP
  · rename_i x0
    exact dc_pv.imp (k_X10_layBacks (Φ := fun (t : Option dc_M) r m' => P (t.bind (fun q => k (none) q)) → P (k r m')) x0 m (fun _ h => h) rfl) (fun r m' h => h hP)
  · exact absurd hP hz
