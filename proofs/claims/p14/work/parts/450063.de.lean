/-! ===== methods as functions (written by a program) ===== -/
def C_X3_copyFrom : List (Nat × dc_H) := []
theorem CO_X3_copyFrom {u : Nat} : dc_CO u C_X3_copyFrom := dc_CO_nil
def S_X3_copyFrom : List (Nat × List Nat) := []
def d_X3_copyFrom (x0 : Nat) (x1 : Nat) (m : dc_M) : dc_M :=
  (dc_cp (dc_cp (dc_cp (dc_cp (dc_cp (dc_cp (dc_cp (dc_cp (dc_cp (dc_cp (dc_wi (dc_wi (dc_wi (dc_wi m x0 0 (m.1 x1 0)) x0 1 ((dc_wi m x0 0 (m.1 x1 0)).1 x1 1)) x0 2 ((dc_wi (dc_wi m x0 0 (m.1 x1 0)) x0 1 ((dc_wi m x0 0 (m.1 x1 0)).1 x1 1)).1 x1 2)) x0 13 ((dc_wi (dc_wi (dc_wi m x0 0 (m.1 x1 0)) x0 1 ((dc_wi m x0 0 (m.1 x1 0)).1 x1 1)) x0 2 ((dc_wi (dc_wi m x0 0 (m.1 x1 0)) x0 1 ((dc_wi m x0 0 (m.1 x1 0)).1 x1 1)).1 x1 2)).1 x1 13)) (x1 + 1) (Int32.toNatClampNeg (0 : Int32)) (x0 + 1) (Int32.toNatClampNeg (0 : Int32)) (Int32.toNatClampNeg (6 : Int32))) (x1 + 2) (Int32.toNatClampNeg (0 : Int32)) (x0 + 2) (Int32.toNatClampNeg (0 : Int32)) (Int32.toNatClampNeg (6 : Int32))) (x1 + 3) (Int32.toNatClampNeg (0 : Int32)) (x0 + 3) (Int32.toNatClampNeg (0 : Int32)) (Int32.toNatClampNeg (16 : Int32))) (x1 + 4) (Int32.toNatClampNeg (0 : Int32)) (x0 + 4) (Int32.toNatClampNeg (0 : Int32)) (Int32.toNatClampNeg (16 : Int32))) (x1 + 5) (Int32.toNatClampNeg (0 : Int32)) (x0 + 5) (Int32.toNatClampNeg (0 : Int32)) (Int32.toNatClampNeg (16 : Int32))) (x1 + 6) (Int32.toNatClampNeg (0 : Int32)) (x0 + 6) (Int32.toNatClampNeg (0 : Int32)) (Int32.toNatClampNeg (16 : Int32))) (x1 + 7) (Int32.toNatClampNeg (0 : Int32)) (x0 + 7) (Int32.toNatClampNeg (0 : Int32)) (Int32.toNatClampNeg (16 : Int32))) (x1 + 8) (Int32.toNatClampNeg (0 : Int32)) (x0 + 8) (Int32.toNatClampNeg (0 : Int32)) (Int32.toNatClampNeg (16 : Int32))) (x1 + 9) (Int32.toNatClampNeg (0 : Int32)) (x0 + 9) (Int32.toNatClampNeg (0 : Int32)) (Int32.toNatClampNeg (20 : Int32))) (x1 + 10) (Int32.toNatClampNeg (0 : Int32)) (x0 + 10) (Int32.toNatClampNeg (0 : Int32)) (Int32.toNatClampNeg (20 : Int32)))
set_option maxHeartbeats 8000000 in
theorem k_X3_copyFrom {u : Nat} {N : Nat} {Φ : dc_M → Option Value → dc_M → Prop} (x0 : Nat) (x1 : Nat) (m : dc_M) (kR : ∀  (m : dc_M), Φ (m) (none) m)  {lv : ab_L} (f0 : ab_lk lv 0 = some (.ref x0)) (f1 : ab_lk lv 1 = some (.ref x1)) : dc_pv u N ab_M_X3_copyFrom 0 lv [] m (Φ (d_X3_copyFrom x0 x1 m)) := by
  refine dc_pv.mono (dc_ok (C := C_X3_copyFrom) (S := S_X3_copyFrom) CO_X3_copyFrom 400 0 [(0, .ref x0), (1, .ref x1)] lv [] m (dc_sub_cons f0 (dc_sub_cons f1 (dc_sub_nil))) ?_) (Nat.le_succ N)
  unfold d_X3_copyFrom
  refine dg_s (pc' := 1) [.ref x0] rfl (fun _ => rfl) rfl ?_
  refine dg_s (pc' := 2) [.ref x1, .ref x0] rfl (fun _ => rfl) rfl ?_
  refine dg_s (pc' := 5) [.int (m.1 x1 0), .ref x0] rfl (fun _ => rfl) rfl ?_
  refine dg_m (pc' := 8) (dc_wi m x0 0 (m.1 x1 0)) [] rfl (fun _ => rfl) rfl ?_
  refine dg_s (pc' := 9) [.ref x0] rfl (fun _ => rfl) rfl ?_
  refine dg_s (pc' := 10) [.ref x1, .ref x0] rfl (fun _ => rfl) rfl ?_
  refine dg_s (pc' := 13) [.int ((dc_wi m x0 0 (m.1 x1 0)).1 x1 1), .ref x0] rfl (fun _ => rfl) rfl ?_
  refine dg_m (pc' := 16) (dc_wi (dc_wi m x0 0 (m.1 x1 0)) x0 1 ((dc_wi m x0 0 (m.1 x1 0)).1 x1 1)) [] rfl (fun _ => rfl) rfl ?_
  refine dg_s (pc' := 17) [.ref x0] rfl (fun _ => rfl) rfl ?_
  refine dg_s (pc' := 18) [.ref x1, .ref x0] rfl (fun _ => rfl) rfl ?_
  refine dg_s (pc' := 21) [.int ((dc_wi (dc_wi m x0 0 (m.1 x1 0)) x0 1 ((dc_wi m x0 0 (m.1 x1 0)).1 x1 1)).1 x1 2), .ref x0] rfl (fun _ => rfl) rfl ?_
  refine dg_m (pc' := 24) (dc_wi (dc_wi (dc_wi m x0 0 (m.1 x1 0)) x0 1 ((dc_wi m x0 0 (m.1 x1 0)).1 x1 1)) x0 2 ((dc_wi (dc_wi m x0 0 (m.1 x1 0)) x0 1 ((dc_wi m x0 0 (m.1 x1 0)).1 x1 1)).1 x1 2)) [] rfl (fun _ => rfl) rfl ?_
  refine dg_s (pc' := 25) [.ref x0] rfl (fun _ => rfl) rfl ?_
  refine dg_s (pc' := 26) [.ref x1, .ref x0] rfl (fun _ => rfl) rfl ?_
  refine dg_s (pc' := 29) [.int ((dc_wi (dc_wi (dc_wi m x0 0 (m.1 x1 0)) x0 1 ((dc_wi m x0 0 (m.1 x1 0)).1 x1 1)) x0 2 ((dc_wi (dc_wi m x0 0 (m.1 x1 0)) x0 1 ((dc_wi m x0 0 (m.1 x1 0)).1 x1 1)).1 x1 2)).1 x1 13), .ref x0] rfl (fun _ => rfl) rfl ?_
  refine dg_m (pc' := 32) (dc_wi (dc_wi (dc_wi (dc_wi m x0 0 (m.1 x1 0)) x0 1 ((dc_wi m x0 0 (m.1 x1 0)).1 x1 1)) x0 2 ((dc_wi (dc_wi m x0 0 (m.1 x1 0)) x0 1 ((dc_wi m x0 0 (m.1 x1 0)).1 x1 1)).1 x1 2)) x0 13 ((dc_wi (dc_wi (dc_wi m x0 0 (m.1 x1 0)) x0 1 ((dc_wi m x0 0 (m.1 x1 0)).1 x1 1)) x0 2 ((dc_wi (dc_wi m x0 0 (m.1 x1 0)) x0 1 ((dc_wi m x0 0 (m.1 x1 0)).1 x1 1)).1 x1 2)).1 x1 13)) [] rfl (fun _ => rfl) rfl ?_
  refine dg_s (pc' := 33) [.ref x1] rfl (fun _ => rfl) rfl ?_
  refine dg_s (pc' := 36) [.ref (x1 + 1)] rfl (fun _ => rfl) rfl ?_
  refine dg_s (pc' := 37) [.int (0 : Int32), .ref (x1 + 1)] rfl (fun _ => rfl) rfl ?_
  refine dg_s (pc' := 38) [.ref x0, .int (0 : Int32), .ref (x1 + 1)] rfl (fun _ => rfl) rfl ?_
  refine dg_s (pc' := 41) [.ref (x0 + 1), .int (0 : Int32), .ref (x1 + 1)] rfl (fun _ => rfl) rfl ?_
  refine dg_s (pc' := 42) [.int (0 : Int32), .ref (x0 + 1), .int (0 : Int32), .ref (x1 + 1)] rfl (fun _ => rfl) rfl ?_
  refine dg_s (pc' := 44) [.int (6 : Int32), .int (0 : Int32), .ref (x0 + 1), .int (0 : Int32), .ref (x1 + 1)] rfl (fun _ => rfl) rfl ?_
  refine dg_m (pc' := 47) (dc_cp (dc_wi (dc_wi (dc_wi (dc_wi m x0 0 (m.1 x1 0)) x0 1 ((dc_wi m x0 0 (m.1 x1 0)).1 x1 1)) x0 2 ((dc_wi (dc_wi m x0 0 (m.1 x1 0)) x0 1 ((dc_wi m x0 0 (m.1 x1 0)).1 x1 1)).1 x1 2)) x0 13 ((dc_wi (dc_wi (dc_wi m x0 0 (m.1 x1 0)) x0 1 ((dc_wi m x0 0 (m.1 x1 0)).1 x1 1)) x0 2 ((dc_wi (dc_wi m x0 0 (m.1 x1 0)) x0 1 ((dc_wi m x0 0 (m.1 x1 0)).1 x1 1)).1 x1 2)).1 x1 13)) (x1 + 1) (Int32.toNatClampNeg (0 : Int32)) (x0 + 1) (Int32.toNatClampNeg (0 : Int32)) (Int32.toNatClampNeg (6 : Int32))) [] rfl (fun _ => rfl) rfl ?_
  refine dg_s (pc' := 48) [.ref x1] rfl (fun _ => rfl) rfl ?_
  refine dg_s (pc' := 51) [.ref (x1 + 2)] rfl (fun _ => rfl) rfl ?_
  refine dg_s (pc' := 52) [.int (0 : Int32), .ref (x1 + 2)] rfl (fun _ => rfl) rfl ?_
  refine dg_s (pc' := 53) [.ref x0, .int (0 : Int32), .ref (x1 + 2)] rfl (fun _ => rfl) rfl ?_
  refine dg_s (pc' := 56) [.ref (x0 + 2), .int (0 : Int32), .ref (x1 + 2)] rfl (fun _ => rfl) rfl ?_
  refine dg_s (pc' := 57) [.int (0 : Int32), .ref (x0 + 2), .int (0 : Int32), .ref (x1 + 2)] rfl (fun _ => rfl) rfl ?_
  refine dg_s (pc' := 59) [.int (6 : Int32), .int (0 : Int32), .ref (x0 + 2), .int (0 : Int32), .ref (x1 + 2)] rfl (fun _ => rfl) rfl ?_
  refine dg_m (pc' := 62) (dc_cp (dc_cp (dc_wi (dc_wi (dc_wi (dc_wi m x0 0 (m.1 x1 0)) x0 1 ((dc_wi m x0 0 (m.1 x1 0)).1 x1 1)) x0 2 ((dc_wi (dc_wi m x0 0 (m.1 x1 0)) x0 1 ((dc_wi m x0 0 (m.1 x1 0)).1 x1 1)).1 x1 2)) x0 13 ((dc_wi (dc_wi (dc_wi m x0 0 (m.1 x1 0)) x0 1 ((dc_wi m x0 0 (m.1 x1 0)).1 x1 1)) x0 2 ((dc_wi (dc_wi m x0 0 (m.1 x1 0)) x0 1 ((dc_wi m x0 0 (m.1 x1 0)).1 x1 1)).1 x1 2)).1 x1 13)) (x1 + 1) (Int32.toNatClampNeg (0 : Int32)) (x0 + 1) (Int32.toNatClampNeg (0 : Int32)) (Int32.toNatClampNeg (6 : Int32))) (x1 + 2) (Int32.toNatClampNeg (0 : Int32)) (x0 + 2) (Int32.toNatClampNeg (0 : Int32)) (Int32.toNatClampNeg (6 : Int32))) [] rfl (fun _ => rfl) rfl ?_
  refine dg_s (pc' := 63) [.ref x1] rfl (fun _ => rfl) rfl ?_
  refine dg_s (pc' := 66) [.ref (x1 + 3)] rfl (fun _ => rfl) rfl ?_
  refine dg_s (pc' := 67) [.int (0 : Int32), .ref (x1 + 3)] rfl (fun _ => rfl) rfl ?_
  refine dg_s (pc' := 68) [.ref x0, .int (0 : Int32), .ref (x1 + 3)] rfl (fun _ => rfl) rfl ?_
  refine dg_s (pc' := 71) [.ref (x0 + 3), .int (0 : Int32), .ref (x1 + 3)] rfl (fun _ => rfl) rfl ?_
  refine dg_s (pc' := 72) [.int (0 : Int32), .ref (x0 + 3), .int (0 : Int32), .ref (x1 + 3)] rfl (fun _ => rfl) rfl ?_
  refine dg_s (pc' := 74) [.int (16 : Int32), .int (0 : Int32), .ref (x0 + 3), .int (0 : Int32), .ref (x1 + 3)] rfl (fun _ => rfl) rfl ?_
  refine dg_m (pc' := 77) (dc_cp (dc_cp (dc_cp (dc_wi (dc_wi (dc_wi (dc_wi m x0 0 (m.1 x1 0)) x0 1 ((dc_wi m x0 0 (m.1 x1 0)).1 x1 1)) x0 2 ((dc_wi (dc_wi m x0 0 (m.1 x1 0)) x0 1 ((dc_wi m x0 0 (m.1 x1 0)).1 x1 1)).1 x1 2)) x0 13 ((dc_wi (dc_wi (dc_wi m x0 0 (m.1 x1 0)) x0 1 ((dc_wi m x0 0 (m.1 x1 0)).1 x1 1)) x0 2 ((dc_wi (dc_wi m x0 0 (m.1 x1 0)) x0 1 ((dc_wi m x0 0 (m.1 x1 0)).1 x1 1)).1 x1 2)).1 x1 13)) (x1 + 1) (Int32.toNatClampNeg (0 : Int32)) (x0 + 1) (Int32.toNatClampNeg (0 : Int32)) (Int32.toNatClampNeg (6 : Int32))) (x1 + 2) (Int32.toNatClampNeg (0 : Int32)) (x0 + 2) (Int32.toNatClampNeg (0 : Int32)) (Int32.toNatClampNeg (6 : Int32))) (x1 + 3) (Int32.toNatClampNeg (0 : Int32)) (x0 + 3) (Int32.toNatClampNeg (0 : Int32)) (Int32.toNatClampNeg (16 : Int32))) [] rfl (fun _ => rfl) rfl ?_
  refine dg_s (pc' := 78) [.ref x1] rfl (fun _ => rfl) rfl ?_
  refine dg_s (pc' := 81) [.ref (x1 + 4)] rfl (fun _ => rfl) rfl ?_
  refine dg_s (pc' := 82) [.int (0 : Int32), .ref (x1 + 4)] rfl (fun _ => rfl) rfl ?_
  refine dg_s (pc' := 83) [.ref x0, .int (0 : Int32), .ref (x1 + 4)] rfl (fun _ => rfl) rfl ?_
  refine dg_s (pc' := 86) [.ref (x0 + 4), .int (0 : Int32), .ref (x1 + 4)] rfl (fun _ => rfl) rfl ?_
  refine dg_s (pc' := 87) [.int (0 : Int32), .ref (x0 + 4), .int (0 : Int32), .ref (x1 + 4)] rfl (fun _ => rfl) rfl ?_
  refine dg_s (pc' := 89) [.int (16 : Int32), .int (0 : Int32), .ref (x0 + 4), .int (0 : Int32), .ref (x1 + 4)] rfl (fun _ => rfl) rfl ?_
  refine dg_m (pc' := 92) (dc_cp (dc_cp (dc_cp (dc_cp (dc_wi (dc_wi (dc_wi (dc_wi m x0 0 (m.1 x1 0)) x0 1 ((dc_wi m x0 0 (m.1 x1 0)).1 x1 1)) x0 2 ((dc_wi (dc_wi m x0 0 (m.1 x1 0)) x0 1 ((dc_wi m x0 0 (m.1 x1 0)).1 x1 1)).1 x1 2)) x0 13 ((dc_wi (dc_wi (dc_wi m x0 0 (m.1 x1 0)) x0 1 ((dc_wi m x0 0 (m.1 x1 0)).1 x1 1)) x0 2 ((dc_wi (dc_wi m x0 0 (m.1 x1 0)) x0 1 ((dc_wi m x0 0 (m.1 x1 0)).1 x1 1)).1 x1 2)).1 x1 13)) (x1 + 1) (Int32.toNatClampNeg (0 : Int32)) (x0 + 1) (Int32.toNatClampNeg (0 : Int32)) (Int32.toNatClampNeg (6 : Int32))) (x1 + 2) (Int32.toNatClampNeg (0 : Int32)) (x0 + 2) (Int32.toNatClampNeg (0 : Int32)) (Int32.toNatClampNeg (6 : Int32))) (x1 + 3) (Int32.toNatClampNeg (0 : Int32)) (x0 + 3) (Int32.toNatClampNeg (0 : Int32)) (Int32.toNatClampNeg (16 : Int32))) (x1 + 4) (Int32.toNatClampNeg (0 : Int32)) (x0 + 4) (Int32.toNatClampNeg (0 : Int32)) (Int32.toNatClampNeg (16 : Int32))) [] rfl (fun _ => rfl) rfl ?_
  refine dg_s (pc' := 93) [.ref x1] rfl (fun _ => rfl) rfl ?_
  refine dg_s (pc' := 96) [.ref (x1 + 5)] rfl (fun _ => rfl) rfl ?_
  refine dg_s (pc' := 97) [.int (0 : Int32), .ref (x1 + 5)] rfl (fun _ => rfl) rfl ?_
  refine dg_s (pc' := 98) [.ref x0, .int (0 : Int32), .ref (x1 + 5)] rfl (fun _ => rfl) rfl ?_
  refine dg_s (pc' := 101) [.ref (x0 + 5), .int (0 : Int32), .ref (x1 + 5)] rfl (fun _ => rfl) rfl ?_
  refine dg_s (pc' := 102) [.int (0 : Int32), .ref (x0 + 5), .int (0 : Int32), .ref (x1 + 5)] rfl (fun _ => rfl) rfl ?_
  refine dg_s (pc' := 104) [.int (16 : Int32), .int (0 : Int32), .ref (x0 + 5), .int (0 : Int32), .ref (x1 + 5)] rfl (fun _ => rfl) rfl ?_
  refine dg_m (pc' := 107) (dc_cp (dc_cp (dc_cp (dc_cp (dc_cp (dc_wi (dc_wi (dc_wi (dc_wi m x0 0 (m.1 x1 0)) x0 1 ((dc_wi m x0 0 (m.1 x1 0)).1 x1 1)) x0 2 ((dc_wi (dc_wi m x0 0 (m.1 x1 0)) x0 1 ((dc_wi m x0 0 (m.1 x1 0)).1 x1 1)).1 x1 2)) x0 13 ((dc_wi (dc_wi (dc_wi m x0 0 (m.1 x1 0)) x0 1 ((dc_wi m x0 0 (m.1 x1 0)).1 x1 1)) x0 2 ((dc_wi (dc_wi m x0 0 (m.1 x1 0)) x0 1 ((dc_wi m x0 0 (m.1 x1 0)).1 x1 1)).1 x1 2)).1 x1 13)) (x1 + 1) (Int32.toNatClampNeg (0 : Int32)) (x0 + 1) (Int32.toNatClampNeg (0 : Int32)) (Int32.toNatClampNeg (6 : Int32))) (x1 + 2) (Int32.toNatClampNeg (0 : Int32)) (x0 + 2) (Int32.toNatClampNeg (0 : Int32)) (Int32.toNatClampNeg (6 : Int32))) (x1 + 3) (Int32.toNatClampNeg (0 : Int32)) (x0 + 3) (Int32.toNatClampNeg (0 : Int32)) (Int32.toNatClampNeg (16 : Int32))) (x1 + 4) (Int32.toNatClampNeg (0 : Int32)) (x0 + 4) (Int32.toNatClampNeg (0 : Int32)) (Int32.toNatClampNeg (16 : Int32))) (x1 + 5) (Int32.toNatClampNeg (0 : Int32)) (x0 + 5) (Int32.toNatClampNeg (0 : Int32)) (Int32.toNatClampNeg (16 : Int32))) [] rfl (fun _ => rfl) rfl ?_
  refine dg_s (pc' := 108) [.ref x1] rfl (fun _ => rfl) rfl ?_
  refine dg_s (pc' := 111) [.ref (x1 + 6)] rfl (fun _ => rfl) rfl ?_
  refine dg_s (pc' := 112) [.int (0 : Int32), .ref (x1 + 6)] rfl (fun _ => rfl) rfl ?_
  refine dg_s (pc' := 113) [.ref x0, .int (0 : Int32), .ref (x1 + 6)] rfl (fun _ => rfl) rfl ?_
  refine dg_s (pc' := 116) [.ref (x0 + 6), .int (0 : Int32), .ref (x1 + 6)] rfl (fun _ => rfl) rfl ?_
  refine dg_s (pc' := 117) [.int (0 : Int32), .ref (x0 + 6), .int (0 : Int32), .ref (x1 + 6)] rfl (fun _ => rfl) rfl ?_
  refine dg_s (pc' := 119) [.int (16 : Int32), .int (0 : Int32), .ref (x0 + 6), .int (0 : Int32), .ref (x1 + 6)] rfl (fun _ => rfl) rfl ?_
  refine dg_m (pc' := 122) (dc_cp (dc_cp (dc_cp (dc_cp (dc_cp (dc_cp (dc_wi (dc_wi (dc_wi (dc_wi m x0 0 (m.1 x1 0)) x0 1 ((dc_wi m x0 0 (m.1 x1 0)).1 x1 1)) x0 2 ((dc_wi (dc_wi m x0 0 (m.1 x1 0)) x0 1 ((dc_wi m x0 0 (m.1 x1 0)).1 x1 1)).1 x1 2)) x0 13 ((dc_wi (dc_wi (dc_wi m x0 0 (m.1 x1 0)) x0 1 ((dc_wi m x0 0 (m.1 x1 0)).1 x1 1)) x0 2 ((dc_wi (dc_wi m x0 0 (m.1 x1 0)) x0 1 ((dc_wi m x0 0 (m.1 x1 0)).1 x1 1)).1 x1 2)).1 x1 13)) (x1 + 1) (Int32.toNatClampNeg (0 : Int32)) (x0 + 1) (Int32.toNatClampNeg (0 : Int32)) (Int32.toNatClampNeg (6 : Int32))) (x1 + 2) (Int32.toNatClampNeg (0 : Int32)) (x0 + 2) (Int32.toNatClampNeg (0 : Int32)) (Int32.toNatClampNeg (6 : Int32))) (x1 + 3) (Int32.toNatClampNeg (0 : Int32)) (x0 + 3) (Int32.toNatClampNeg (0 : Int32)) (Int32.toNatClampNeg (16 : Int32))) (x1 + 4) (Int32.toNatClampNeg (0 : Int32)) (x0 + 4) (Int32.toNatClampNeg (0 : Int32)) (Int32.toNatClampNeg (16 : Int32))) (x1 + 5) (Int32.toNatClampNeg (0 : Int32)) (x0 + 5) (Int32.toNatClampNeg (0 : Int32)) (Int32.toNatClampNeg (16 : Int32))) (x1 + 6) (Int32.toNatClampNeg (0 : Int32)) (x0 + 6) (Int32.toNatClampNeg (0 : Int32)) (Int32.toNatClampNeg (16 : Int32))) [] rfl (fun _ => rfl) rfl ?_
  refine dg_s (pc' := 123) [.ref x1] rfl (fun _ => rfl) rfl ?_
  refine dg_s (pc' := 126) [.ref (x1 + 7)] rfl (fun _ => rfl) rfl ?_
  refine dg_s (pc' := 127) [.int (0 : Int32), .ref (x1 + 7)] rfl (fun _ => rfl) rfl ?_
  refine dg_s (pc' := 128) [.ref x0, .int (0 : Int32), .ref (x1 + 7)] rfl (fun _ => rfl) rfl ?_
  refine dg_s (pc' := 131) [.ref (x0 + 7), .int (0 : Int32), .ref (x1 + 7)] rfl (fun _ => rfl) rfl ?_
  refine dg_s (pc' := 132) [.int (0 : Int32), .ref (x0 + 7), .int (0 : Int32), .ref (x1 + 7)] rfl (fun _ => rfl) rfl ?_
  refine dg_s (pc' := 134) [.int (16 : Int32), .int (0 : Int32), .ref (x0 + 7), .int (0 : Int32), .ref (x1 + 7)] rfl (fun _ => rfl) rfl ?_
  refine dg_m (pc' := 137) (dc_cp (dc_cp (dc_cp (dc_cp (dc_cp (dc_cp (dc_cp (dc_wi (dc_wi (dc_wi (dc_wi m x0 0 (m.1 x1 0)) x0 1 ((dc_wi m x0 0 (m.1 x1 0)).1 x1 1)) x0 2 ((dc_wi (dc_wi m x0 0 (m.1 x1 0)) x0 1 ((dc_wi m x0 0 (m.1 x1 0)).1 x1 1)).1 x1 2)) x0 13 ((dc_wi (dc_wi (dc_wi m x0 0 (m.1 x1 0)) x0 1 ((dc_wi m x0 0 (m.1 x1 0)).1 x1 1)) x0 2 ((dc_wi (dc_wi m x0 0 (m.1 x1 0)) x0 1 ((dc_wi m x0 0 (m.1 x1 0)).1 x1 1)).1 x1 2)).1 x1 13)) (x1 + 1) (Int32.toNatClampNeg (0 : Int32)) (x0 + 1) (Int32.toNatClampNeg (0 : Int32)) (Int32.toNatClampNeg (6 : Int32))) (x1 + 2) (Int32.toNatClampNeg (0 : Int32)) (x0 + 2) (Int32.toNatClampNeg (0 : Int32)) (Int32.toNatClampNeg (6 : Int32))) (x1 + 3) (Int32.toNatClampNeg (0 : Int32)) (x0 + 3) (Int32.toNatClampNeg (0 : Int32)) (Int32.toNatClampNeg (16 : Int32))) (x1 + 4) (Int32.toNatClampNeg (0 : Int32)) (x0 + 4) (Int32.toNatClampNeg (0 : Int32)) (Int32.toNatClampNeg (16 : Int32))) (x1 + 5) (Int32.toNatClampNeg (0 : Int32)) (x0 + 5) (Int32.toNatClampNeg (0 : Int32)) (Int32.toNatClampNeg (16 : Int32))) (x1 + 6) (Int32.toNatClampNeg (0 : Int32)) (x0 + 6) (Int32.toNatClampNeg (0 : Int32)) (Int32.toNatClampNeg (16 : Int32))) (x1 + 7) (Int32.toNatClampNeg (0 : Int32)) (x0 + 7) (Int32.toNatClampNeg (0 : Int32)) (Int32.toNatClampNeg (16 : Int32))) [] rfl (fun _ => rfl) rfl ?_
  refine dg_s (pc' := 138) [.ref x1] rfl (fun _ => rfl) rfl ?_
  refine dg_s (pc' := 141) [.ref (x1 + 8)] rfl (fun _ => rfl) rfl ?_
  refine dg_s (pc' := 142) [.int (0 : Int32), .ref (x1 + 8)] rfl (fun _ => rfl) rfl ?_
  refine dg_s (pc' := 143) [.ref x0, .int (0 : Int32), .ref (x1 + 8)] rfl (fun _ => rfl) rfl ?_
  refine dg_s (pc' := 146) [.ref (x0 + 8), .int (0 : Int32), .ref (x1 + 8)] rfl (fun _ => rfl) rfl ?_
  refine dg_s (pc' := 147) [.int (0 : Int32), .ref (x0 + 8), .int (0 : Int32), .ref (x1 + 8)] rfl (fun _ => rfl) rfl ?_
  refine dg_s (pc' := 149) [.int (16 : Int32), .int (0 : Int32), .ref (x0 + 8), .int (0 : Int32), .ref (x1 + 8)] rfl (fun _ => rfl) rfl ?_
  refine dg_m (pc' := 152) (dc_cp (dc_cp (dc_cp (dc_cp (dc_cp (dc_cp (dc_cp (dc_cp (dc_wi (dc_wi (dc_wi (dc_wi m x0 0 (m.1 x1 0)) x0 1 ((dc_wi m x0 0 (m.1 x1 0)).1 x1 1)) x0 2 ((dc_wi (dc_wi m x0 0 (m.1 x1 0)) x0 1 ((dc_wi m x0 0 (m.1 x1 0)).1 x1 1)).1 x1 2)) x0 13 ((dc_wi (dc_wi (dc_wi m x0 0 (m.1 x1 0)) x0 1 ((dc_wi m x0 0 (m.1 x1 0)).1 x1 1)) x0 2 ((dc_wi (dc_wi m x0 0 (m.1 x1 0)) x0 1 ((dc_wi m x0 0 (m.1 x1 0)).1 x1 1)).1 x1 2)).1 x1 13)) (x1 + 1) (Int32.toNatClampNeg (0 : Int32)) (x0 + 1) (Int32.toNatClampNeg (0 : Int32)) (Int32.toNatClampNeg (6 : Int32))) (x1 + 2) (Int32.toNatClampNeg (0 : Int32)) (x0 + 2) (Int32.toNatClampNeg (0 : Int32)) (Int32.toNatClampNeg (6 : Int32))) (x1 + 3) (Int32.toNatClampNeg (0 : Int32)) (x0 + 3) (Int32.toNatClampNeg (0 : Int32)) (Int32.toNatClampNeg (16 : Int32))) (x1 + 4) (Int32.toNatClampNeg (0 : Int32)) (x0 + 4) (Int32.toNatClampNeg (0 : Int32)) (Int32.toNatClampNeg (16 : Int32))) (x1 + 5) (Int32.toNatClampNeg (0 : Int32)) (x0 + 5) (Int32.toNatClampNeg (0 : Int32)) (Int32.toNatClampNeg (16 : Int32))) (x1 + 6) (Int32.toNatClampNeg (0 : Int32)) (x0 + 6) (Int32.toNatClampNeg (0 : Int32)) (Int32.toNatClampNeg (16 : Int32))) (x1 + 7) (Int32.toNatClampNeg (0 : Int32)) (x0 + 7) (Int32.toNatClampNeg (0 : Int32)) (Int32.toNatClampNeg (16 : Int32))) (x1 + 8) (Int32.toNatClampNeg (0 : Int32)) (x0 + 8) (Int32.toNatClampNeg (0 : Int32)) (Int32.toNatClampNeg (16 : Int32))) [] rfl (fun _ => rfl) rfl ?_
  refine dg_s (pc' := 153) [.ref x1] rfl (fun _ => rfl) rfl ?_
  refine dg_s (pc' := 156) [.ref (x1 + 9)] rfl (fun _ => rfl) rfl ?_
  refine dg_s (pc' := 157) [.int (0 : Int32), .ref (x1 + 9)] rfl (fun _ => rfl) rfl ?_
  refine dg_s (pc' := 158) [.ref x0, .int (0 : Int32), .ref (x1 + 9)] rfl (fun _ => rfl) rfl ?_
  refine dg_s (pc' := 161) [.ref (x0 + 9), .int (0 : Int32), .ref (x1 + 9)] rfl (fun _ => rfl) rfl ?_
  refine dg_s (pc' := 162) [.int (0 : Int32), .ref (x0 + 9), .int (0 : Int32), .ref (x1 + 9)] rfl (fun _ => rfl) rfl ?_
  refine dg_s (pc' := 164) [.int (20 : Int32), .int (0 : Int32), .ref (x0 + 9), .int (0 : Int32), .ref (x1 + 9)] rfl (fun _ => rfl) rfl ?_
  refine dg_m (pc' := 167) (dc_cp (dc_cp (dc_cp (dc_cp (dc_cp (dc_cp (dc_cp (dc_cp (dc_cp (dc_wi (dc_wi (dc_wi (dc_wi m x0 0 (m.1 x1 0)) x0 1 ((dc_wi m x0 0 (m.1 x1 0)).1 x1 1)) x0 2 ((dc_wi (dc_wi m x0 0 (m.1 x1 0)) x0 1 ((dc_wi m x0 0 (m.1 x1 0)).1 x1 1)).1 x1 2)) x0 13 ((dc_wi (dc_wi (dc_wi m x0 0 (m.1 x1 0)) x0 1 ((dc_wi m x0 0 (m.1 x1 0)).1 x1 1)) x0 2 ((dc_wi (dc_wi m x0 0 (m.1 x1 0)) x0 1 ((dc_wi m x0 0 (m.1 x1 0)).1 x1 1)).1 x1 2)).1 x1 13)) (x1 + 1) (Int32.toNatClampNeg (0 : Int32)) (x0 + 1) (Int32.toNatClampNeg (0 : Int32)) (Int32.toNatClampNeg (6 : Int32))) (x1 + 2) (Int32.toNatClampNeg (0 : Int32)) (x0 + 2) (Int32.toNatClampNeg (0 : Int32)) (Int32.toNatClampNeg (6 : Int32))) (x1 + 3) (Int32.toNatClampNeg (0 : Int32)) (x0 + 3) (Int32.toNatClampNeg (0 : Int32)) (Int32.toNatClampNeg (16 : Int32))) (x1 + 4) (Int32.toNatClampNeg (0 : Int32)) (x0 + 4) (Int32.toNatClampNeg (0 : Int32)) (Int32.toNatClampNeg (16 : Int32))) (x1 + 5) (Int32.toNatClampNeg (0 : Int32)) (x0 + 5) (Int32.toNatClampNeg (0 : Int32)) (Int32.toNatClampNeg (16 : Int32))) (x1 + 6) (Int32.toNatClampNeg (0 : Int32)) (x0 + 6) (Int32.toNatClampNeg (0 : Int32)) (Int32.toNatClampNeg (16 : Int32))) (x1 + 7) (Int32.toNatClampNeg (0 : Int32)) (x0 + 7) (Int32.toNatClampNeg (0 : Int32)) (Int32.toNatClampNeg (16 : Int32))) (x1 + 8) (Int32.toNatClampNeg (0 : Int32)) (x0 + 8) (Int32.toNatClampNeg (0 : Int32)) (Int32.toNatClampNeg (16 : Int32))) (x1 + 9) (Int32.toNatClampNeg (0 : Int32)) (x0 + 9) (Int32.toNatClampNeg (0 : Int32)) (Int32.toNatClampNeg (20 : Int32))) [] rfl (fun _ => rfl) rfl ?_
  refine dg_s (pc' := 168) [.ref x1] rfl (fun _ => rfl) rfl ?_
  refine dg_s (pc' := 171) [.ref (x1 + 10)] rfl (fun _ => rfl) rfl ?_
  refine dg_s (pc' := 172) [.int (0 : Int32), .ref (x1 + 10)] rfl (fun _ => rfl) rfl ?_
  refine dg_s (pc' := 173) [.ref x0, .int (0 : Int32), .ref (x1 + 10)] rfl (fun _ => rfl) rfl ?_
  refine dg_s (pc' := 176) [.ref (x0 + 10), .int (0 : Int32), .ref (x1 + 10)] rfl (fun _ => rfl) rfl ?_
  refine dg_s (pc' := 177) [.int (0 : Int32), .ref (x0 + 10), .int (0 : Int32), .ref (x1 + 10)] rfl (fun _ => rfl) rfl ?_
  refine dg_s (pc' := 179) [.int (20 : Int32), .int (0 : Int32), .ref (x0 + 10), .int (0 : Int32), .ref (x1 + 10)] rfl (fun _ => rfl) rfl ?_
  refine dg_m (pc' := 182) (dc_cp (dc_cp (dc_cp (dc_cp (dc_cp (dc_cp (dc_cp (dc_cp (dc_cp (dc_cp (dc_wi (dc_wi (dc_wi (dc_wi m x0 0 (m.1 x1 0)) x0 1 ((dc_wi m x0 0 (m.1 x1 0)).1 x1 1)) x0 2 ((dc_wi (dc_wi m x0 0 (m.1 x1 0)) x0 1 ((dc_wi m x0 0 (m.1 x1 0)).1 x1 1)).1 x1 2)) x0 13 ((dc_wi (dc_wi (dc_wi m x0 0 (m.1 x1 0)) x0 1 ((dc_wi m x0 0 (m.1 x1 0)).1 x1 1)) x0 2 ((dc_wi (dc_wi m x0 0 (m.1 x1 0)) x0 1 ((dc_wi m x0 0 (m.1 x1 0)).1 x1 1)).1 x1 2)).1 x1 13)) (x1 + 1) (Int32.toNatClampNeg (0 : Int32)) (x0 + 1) (Int32.toNatClampNeg (0 : Int32)) (Int32.toNatClampNeg (6 : Int32))) (x1 + 2) (Int32.toNatClampNeg (0 : Int32)) (x0 + 2) (Int32.toNatClampNeg (0 : Int32)) (Int32.toNatClampNeg (6 : Int32))) (x1 + 3) (Int32.toNatClampNeg (0 : Int32)) (x0 + 3) (Int32.toNatClampNeg (0 : Int32)) (Int32.toNatClampNeg (16 : Int32))) (x1 + 4) (Int32.toNatClampNeg (0 : Int32)) (x0 + 4) (Int32.toNatClampNeg (0 : Int32)) (Int32.toNatClampNeg (16 : Int32))) (x1 + 5) (Int32.toNatClampNeg (0 : Int32)) (x0 + 5) (Int32.toNatClampNeg (0 : Int32)) (Int32.toNatClampNeg (16 : Int32))) (x1 + 6) (Int32.toNatClampNeg (0 : Int32)) (x0 + 6) (Int32.toNatClampNeg (0 : Int32)) (Int32.toNatClampNeg (16 : Int32))) (x1 + 7) (Int32.toNatClampNeg (0 : Int32)) (x0 + 7) (Int32.toNatClampNeg (0 : Int32)) (Int32.toNatClampNeg (16 : Int32))) (x1 + 8) (Int32.toNatClampNeg (0 : Int32)) (x0 + 8) (Int32.toNatClampNeg (0 : Int32)) (Int32.toNatClampNeg (16 : Int32))) (x1 + 9) (Int32.toNatClampNeg (0 : Int32)) (x0 + 9) (Int32.toNatClampNeg (0 : Int32)) (Int32.toNatClampNeg (20 : Int32))) (x1 + 10) (Int32.toNatClampNeg (0 : Int32)) (x0 + 10) (Int32.toNatClampNeg (0 : Int32)) (Int32.toNatClampNeg (20 : Int32))) [] rfl (fun _ => rfl) rfl ?_
  exact dw_r (some (.inl (none, (dc_cp (dc_cp (dc_cp (dc_cp (dc_cp (dc_cp (dc_cp (dc_cp (dc_cp (dc_cp (dc_wi (dc_wi (dc_wi (dc_wi m x0 0 (m.1 x1 0)) x0 1 ((dc_wi m x0 0 (m.1 x1 0)).1 x1 1)) x0 2 ((dc_wi (dc_wi m x0 0 (m.1 x1 0)) x0 1 ((dc_wi m x0 0 (m.1 x1 0)).1 x1 1)).1 x1 2)) x0 13 ((dc_wi (dc_wi (dc_wi m x0 0 (m.1 x1 0)) x0 1 ((dc_wi m x0 0 (m.1 x1 0)).1 x1 1)) x0 2 ((dc_wi (dc_wi m x0 0 (m.1 x1 0)) x0 1 ((dc_wi m x0 0 (m.1 x1 0)).1 x1 1)).1 x1 2)).1 x1 13)) (x1 + 1) (Int32.toNatClampNeg (0 : Int32)) (x0 + 1) (Int32.toNatClampNeg (0 : Int32)) (Int32.toNatClampNeg (6 : Int32))) (x1 + 2) (Int32.toNatClampNeg (0 : Int32)) (x0 + 2) (Int32.toNatClampNeg (0 : Int32)) (Int32.toNatClampNeg (6 : Int32))) (x1 + 3) (Int32.toNatClampNeg (0 : Int32)) (x0 + 3) (Int32.toNatClampNeg (0 : Int32)) (Int32.toNatClampNeg (16 : Int32))) (x1 + 4) (Int32.toNatClampNeg (0 : Int32)) (x0 + 4) (Int32.toNatClampNeg (0 : Int32)) (Int32.toNatClampNeg (16 : Int32))) (x1 + 5) (Int32.toNatClampNeg (0 : Int32)) (x0 + 5) (Int32.toNatClampNeg (0 : Int32)) (Int32.toNatClampNeg (16 : Int32))) (x1 + 6) (Int32.toNatClampNeg (0 : Int32)) (x0 + 6) (Int32.toNatClampNeg (0 : Int32)) (Int32.toNatClampNeg (16 : Int32))) (x1 + 7) (Int32.toNatClampNeg (0 : Int32)) (x0 + 7) (Int32.toNatClampNeg (0 : Int32)) (Int32.toNatClampNeg (16 : Int32))) (x1 + 8) (Int32.toNatClampNeg (0 : Int32)) (x0 + 8) (Int32.toNatClampNeg (0 : Int32)) (Int32.toNatClampNeg (16 : Int32))) (x1 + 9) (Int32.toNatClampNeg (0 : Int32)) (x0 + 9) (Int32.toNatClampNeg (0 : Int32)) (Int32.toNatClampNeg (20 : Int32))) (x1 + 10) (Int32.toNatClampNeg (0 : Int32)) (x0 + 10) (Int32.toNatClampNeg (0 : Int32)) (Int32.toNatClampNeg (20 : Int32)))))) rfl (fun _ => rfl) (kR _)
def H_X3_copyFrom : dc_H := fun As m k => match As with
  | [.ref x0, .ref x1] => dc_let (d_X3_copyFrom x0 x1 m) (fun q => k (none) q)
  | _ => dc_kz
theorem H_X3_copyFrom_ok {u : Nat} : dc_cok u 24 H_X3_copyFrom := fun M' hG N As m k P hz hP => by
  obtain rfl : ab_M_X3_copyFrom = M' := Option.some.inj hG
  unfold H_X3_copyFrom at hP
  split at hP
  · rename_i x0 x1
    exact dc_pv.imp (k_X3_copyFrom (Φ := fun (t : dc_M) r m' => P (dc_let t (fun q => k (none) q)) → P (k r m')) x0 x1 m (fun _ h => h) rfl rfl) (fun r m' h => h hP)
  · exact absurd hP hz
noncomputable def C_X9_tryCure : List (Nat × dc_H) := [(1, H_X0_find), (42, H_X3_addWireBehind), (24, H_X3_copyFrom), (82, H_X7_explore)]
theorem CO_X9_tryCure {u : Nat} : dc_CO u C_X9_tryCure := dc_CO_cons H_X0_find_ok (dc_CO_cons H_X3_addWireBehind_ok (dc_CO_cons H_X3_copyFrom_ok (dc_CO_cons H_X7_explore_ok (dc_CO_nil))))
def S_X9_tryCure : List (Nat × List Nat) := []
noncomputable def d_X9_tryCure (x0 : Nat) (x1 : Int32) (x2 : Int32) (m : dc_M) : Option dc_M :=
  (dc_let (d_X3_copyFrom (m.2.2.1 x0 8) (m.2.2.1 x0 7) m) (fun q1 => ((d_X3_addWireBehind (q1.2.2.1 x0 8) x1 x2 q1).bind (fun q2 => ((d_X7_explore (x0 + 62) (q2.2.2.1 x0 8) q2).bind (fun q3 => (if (Int32.toInt (q3.1 (x0 + 62) 3)) = 0 then some (q3) else ((d_X0_find (x0 + 70) (q3.2.2.1 x0 8) (x0 + 62) q3).bind (fun q4 => some (q4))))))))))
set_option maxHeartbeats 8000000 in
theorem k_X9_tryCure {u : Nat} {N : Nat} {Φ : (Option dc_M) → Option Value → dc_M → Prop} (x0 : Nat) (x1 : Int32) (x2 : Int32) (m : dc_M) (kR : ∀  (m : dc_M), Φ (some (m)) (none) m)  {lv : ab_L} (f0 : ab_lk lv 0 = some (.ref x0)) (f1 : ab_lk lv 1 = some (.int x1)) (f2 : ab_lk lv 2 = some (.int x2)) : dc_pv u N ab_M_X9_tryCure 0 lv [] m (Φ (d_X9_tryCure x0 x1 x2 m)) := by
  refine dc_pv.mono (dc_ok (C := C_X9_tryCure) (S := S_X9_tryCure) CO_X9_tryCure 400 0 [(0, .ref x0), (1, .int x1), (2, .int x2)] lv [] m (dc_sub_cons f0 (dc_sub_cons f1 (dc_sub_cons f2 (dc_sub_nil)))) ?_) (Nat.le_succ N)
  unfold d_X9_tryCure
  refine dg_s (pc' := 1) [.ref x0] rfl (fun _ => rfl) rfl ?_
  refine dg_s (pc' := 4) [.ref (m.2.2.1 x0 8)] rfl (fun _ => rfl) rfl ?_
  refine dg_s (pc' := 5) [.ref x0, .ref (m.2.2.1 x0 8)] rfl (fun _ => rfl) rfl ?_
  refine dg_s (pc' := 8) [.ref (m.2.2.1 x0 7), .ref (m.2.2.1 x0 8)] rfl (fun _ => rfl) rfl ?_
  refine dw_l (fun t => Φ t) (pc' := 11) (fun q1 => []) (fun q1 => q1) rfl (fun _ => rfl) (fun q1 => ?_)
  refine dw_g rfl ?_
  refine dg_s (pc' := 12) [.ref x0] rfl (fun _ => rfl) rfl ?_
  refine dg_s (pc' := 15) [.ref (q1.2.2.1 x0 8)] rfl (fun _ => rfl) rfl ?_
  refine dg_s (pc' := 16) [.int x1, .ref (q1.2.2.1 x0 8)] rfl (fun _ => rfl) rfl ?_
  refine dg_s (pc' := 17) [.int x2, .int x1, .ref (q1.2.2.1 x0 8)] rfl (fun _ => rfl) rfl ?_
  refine dw_b (fun t => Φ t) (pc' := 20) (fun q2 => []) (fun q2 => q2) rfl (fun _ => rfl) (fun q2 => ?_)
  refine dw_g rfl ?_
  refine dg_s (pc' := 21) [.ref x0] rfl (fun _ => rfl) rfl ?_
  refine dg_s (pc' := 24) [.ref (x0 + 62)] rfl (fun _ => rfl) rfl ?_
  refine dg_s (pc' := 25) [.ref x0, .ref (x0 + 62)] rfl (fun _ => rfl) rfl ?_
  refine dg_s (pc' := 28) [.ref (q2.2.2.1 x0 8), .ref (x0 + 62)] rfl (fun _ => rfl) rfl ?_
  refine dw_b (fun t => Φ t) (pc' := 31) (fun q3 => []) (fun q3 => q3) rfl (fun _ => rfl) (fun q3 => ?_)
  refine dw_g rfl ?_
  refine dg_s (pc' := 32) [.ref x0] rfl (fun _ => rfl) rfl ?_
  refine dg_s (pc' := 35) [.ref (x0 + 62)] rfl (fun _ => rfl) rfl ?_
  refine dg_s (pc' := 38) [.int (q3.1 (x0 + 62) 3)] rfl (fun _ => rfl) rfl ?_
  refine dw_if (fun t => Φ t) ((Int32.toInt (q3.1 (x0 + 62) 3)) = 0) [] 56 41 rfl (fun _ => rfl) (fun c0 => ?_) (fun c0 => ?_)
  · refine dw_g rfl ?_
    exact dw_r (some (.inl (none, q3))) rfl (fun _ => rfl) (kR _)
  · refine dw_g rfl ?_
    refine dg_s (pc' := 42) [.ref x0] rfl (fun _ => rfl) rfl ?_
    refine dg_s (pc' := 45) [.ref (x0 + 70)] rfl (fun _ => rfl) rfl ?_
    refine dg_s (pc' := 46) [.ref x0, .ref (x0 + 70)] rfl (fun _ => rfl) rfl ?_
    refine dg_s (pc' := 49) [.ref (q3.2.2.1 x0 8), .ref (x0 + 70)] rfl (fun _ => rfl) rfl ?_
    refine dg_s (pc' := 50) [.ref x0, .ref (q3.2.2.1 x0 8), .ref (x0 + 70)] rfl (fun _ => rfl) rfl ?_
    refine dg_s (pc' := 53) [.ref (x0 + 62), .ref (q3.2.2.1 x0 8), .ref (x0 + 70)] rfl (fun _ => rfl) rfl ?_
    refine dw_b (fun t => Φ t) (pc' := 56) (fun q4 => []) (fun q4 => q4) rfl (fun _ => rfl) (fun q4 => ?_)
    refine dw_g rfl ?_
    exact dw_r (some (.inl (none, q4))) rfl (fun _ => rfl) (kR _)
noncomputable def H_X9_tryCure : dc_H := fun As m k => match As with
  | [.ref x0, .int x1, .int x2] => (d_X9_tryCure x0 x1 x2 m).bind (fun q => k (none) q)
  | _ => dc_kz
theorem H_X9_tryCure_ok {u : Nat} : dc_cok u 141 H_X9_tryCure := fun M' hG N As m k P hz hP => by
  obtain rfl : ab_M_X9_tryCure = M' := Option.some.inj hG
  unfold H_X9_tryCure at hP
  split at hP
  · rename_i x0 x1 x2
    exact dc_pv.imp (k_X9_tryCure (Φ := fun (t : Option dc_M) r m' => P (t.bind (fun q => k (none) q)) → P (k r m')) x0 x1 x2 m (fun _ h => h) rfl rfl rfl) (fun r m' h => h hP)
  · exact absurd hP hz
noncomputable def C_X9_would : List (Nat × dc_H) := [(140, H_X9_refusedCure), (141, H_X9_tryCure)]
theorem CO_X9_would {u : Nat} : dc_CO u C_X9_would := dc_CO_cons H_X9_refusedCure_ok (dc_CO_cons H_X9_tryCure_ok (dc_CO_nil))
def S_X9_would : List (Nat × List Nat) := []
noncomputable def d_X9_would (x0 : Nat) (x1 : Int32) (x2 : Int32) (m : dc_M) : Option (Int32 × dc_M) :=
  ((d_X9_refusedCure x0 x1 x2 m).bind (fun q1 => (if (Int32.toInt q1.1) = 0 then ((d_X9_tryCure x0 x1 x2 q1.2).bind (fun q2 => (if ¬ (Int32.toInt (q2.1 (x0 + 62) 3)) = 0 then (if (Int32.toInt (q2.1 (x0 + 70) 4)) ≤ 0 then some (((q2.1 (x0 + 70) 1), q2)) else some (((-11 : Int32), q2))) else some (((-10 : Int32), q2))))) else some ((q1.1, q1.2)))))
set_option maxHeartbeats 8000000 in
theorem k_X9_would {u : Nat} {N : Nat} {Φ : (Option (Int32 × dc_M)) → Option Value → dc_M → Prop} (x0 : Nat) (x1 : Int32) (x2 : Int32) (m : dc_M) (kR : ∀ (v : Int32) (m : dc_M), Φ (some ((v, m))) (some (.int v)) m)  {lv : ab_L} (f0 : ab_lk lv 0 = some (.ref x0)) (f1 : ab_lk lv 1 = some (.int x1)) (f2 : ab_lk lv 2 = some (.int x2)) : dc_pv u N ab_M_X9_would 0 lv [] m (Φ (d_X9_would x0 x1 x2 m)) := by
  refine dc_pv.mono (dc_ok (C := C_X9_would) (S := S_X9_would) CO_X9_would 400 0 [(0, .ref x0), (1, .int x1), (2, .int x2)] lv [] m (dc_sub_cons f0 (dc_sub_cons f1 (dc_sub_cons f2 (dc_sub_nil)))) ?_) (Nat.le_succ N)
  unfold d_X9_would
  refine dg_s (pc' := 1) [.ref x0] rfl (fun _ => rfl) rfl ?_
  refine dg_s (pc' := 2) [.int x1, .ref x0] rfl (fun _ => rfl) rfl ?_
  refine dg_s (pc' := 3) [.int x2, .int x1, .ref x0] rfl (fun _ => rfl) rfl ?_
  refine dw_b (fun t => Φ t) (pc' := 6) (fun q1 => [.int q1.1]) (fun q1 => q1.2) rfl (fun _ => rfl) (fun q1 => ?_)
  refine dw_g rfl ?_
  refine dg_L (pc' := 7) [(3, .int q1.1), (0, .ref x0), (1, .int x1), (2, .int x2)] [] rfl (fun _ => rfl) rfl ?_
  refine dg_s (pc' := 8) [.int q1.1] rfl (fun _ => rfl) rfl ?_
  refine dw_if (fun t => Φ t) ((Int32.toInt q1.1) = 0) [] 13 11 rfl (fun _ => rfl) (fun c0 => ?_) (fun c0 => ?_)
  · refine dw_g rfl ?_
    refine dg_s (pc' := 14) [.ref x0] rfl (fun _ => rfl) rfl ?_
    refine dg_s (pc' := 15) [.int x1, .ref x0] rfl (fun _ => rfl) rfl ?_
    refine dg_s (pc' := 16) [.int x2, .int x1, .ref x0] rfl (fun _ => rfl) rfl ?_
    refine dw_b (fun t => Φ t) (pc' := 19) (fun q2 => []) (fun q2 => q2) rfl (fun _ => rfl) (fun q2 => ?_)
    refine dw_g rfl ?_
    refine dg_s (pc' := 20) [.ref x0] rfl (fun _ => rfl) rfl ?_
    refine dg_s (pc' := 23) [.ref (x0 + 62)] rfl (fun _ => rfl) rfl ?_
    refine dg_s (pc' := 26) [.int (q2.1 (x0 + 62) 3)] rfl (fun _ => rfl) rfl ?_
    refine dw_if (fun t => Φ t) (¬ (Int32.toInt (q2.1 (x0 + 62) 3)) = 0) [] 32 29 rfl (fun _ => rfl) (fun c1 => ?_) (fun c1 => ?_)
    · refine dw_g rfl ?_
      refine dg_s (pc' := 33) [.ref x0] rfl (fun _ => rfl) rfl ?_
      refine dg_s (pc' := 36) [.ref (x0 + 70)] rfl (fun _ => rfl) rfl ?_
      refine dg_s (pc' := 39) [.int (q2.1 (x0 + 70) 4)] rfl (fun _ => rfl) rfl ?_
      refine dw_if (fun t => Φ t) ((Int32.toInt (q2.1 (x0 + 70) 4)) ≤ 0) [] 47 42 rfl (fun _ => rfl) (fun c2 => ?_) (fun c2 => ?_)
      · refine dw_g rfl ?_
        refine dg_s (pc' := 48) [.ref x0] rfl (fun _ => rfl) rfl ?_
        refine dg_s (pc' := 51) [.ref (x0 + 70)] rfl (fun _ => rfl) rfl ?_
        refine dg_s (pc' := 54) [.int (q2.1 (x0 + 70) 1)] rfl (fun _ => rfl) rfl ?_
        exact dw_r (some (.inl (some (.int (q2.1 (x0 + 70) 1)), q2))) rfl (fun _ => rfl) (kR _ _)
      · refine dw_g rfl ?_
        refine dg_s (pc' := 44) [.int (-11 : Int32)] rfl (fun _ => rfl) rfl ?_
        refine dg_s (pc' := 54) [.int (-11 : Int32)] rfl (fun _ => rfl) rfl ?_
        exact dw_r (some (.inl (some (.int (-11 : Int32)), q2))) rfl (fun _ => rfl) (kR _ _)
    · refine dw_g rfl ?_
      refine dg_s (pc' := 31) [.int (-10 : Int32)] rfl (fun _ => rfl) rfl ?_
      exact dw_r (some (.inl (some (.int (-10 : Int32)), q2))) rfl (fun _ => rfl) (kR _ _)
  · refine dw_g rfl ?_
    refine dg_s (pc' := 12) [.int q1.1] rfl (fun _ => rfl) rfl ?_
    exact dw_r (some (.inl (some (.int q1.1), q1.2))) rfl (fun _ => rfl) (kR _ _)
noncomputable def H_X9_would : dc_H := fun As m k => match As with
  | [.ref x0, .int x1, .int x2] => (d_X9_would x0 x1 x2 m).bind (fun q => k (some (.int q.1)) q.2)
  | _ => dc_kz
theorem H_X9_would_ok {u : Nat} : dc_cok u 118 H_X9_would := fun M' hG N As m k P hz hP => by
  obtain rfl : ab_M_X9_would = M' := Option.some.inj hG
  unfold H_X9_would at hP
  split at hP
  · rename_i x0 x1 x2
    exact dc_pv.imp (k_X9_would (Φ := fun (t : Option (Int32 × dc_M)) r m' => P (t.bind (fun q => k (some (.int q.1)) q.2)) → P (k r m')) x0 x1 x2 m (fun _ _ h => h) rfl rfl rfl) (fun r m' h => h hP)
  · exact absurd hP hz
def C_X10_dropCure : List (Nat × dc_H) := []
theorem CO_X10_dropCure {u : Nat} : dc_CO u C_X10_dropCure := dc_CO_nil
def S_X10_dropCure : List (Nat × List Nat) := []
def d_X10_dropCure (x0 : Nat) (x1 : Int32) (x2 : Int32) (m : dc_M) : dc_M :=
  (dc_wi (dc_wi (dc_wi (dc_wi (dc_wi m (x0 + 7) (Int32.toNatClampNeg x1) (m.1 (x0 + 7) (Int32.toNatClampNeg ((m.1 x0 3) - (2 : Int32))))) (x0 + 7) (Int32.toNatClampNeg x2) ((dc_wi m (x0 + 7) (Int32.toNatClampNeg x1) (m.1 (x0 + 7) (Int32.toNatClampNeg ((m.1 x0 3) - (2 : Int32))))).1 (x0 + 7) (Int32.toNatClampNeg (((dc_wi m (x0 + 7) (Int32.toNatClampNeg x1) (m.1 (x0 + 7) (Int32.toNatClampNeg ((m.1 x0 3) - (2 : Int32))))).1 x0 3) - (1 : Int32))))) x0 3 (((dc_wi (dc_wi m (x0 + 7) (Int32.toNatClampNeg x1) (m.1 (x0 + 7) (Int32.toNatClampNeg ((m.1 x0 3) - (2 : Int32))))) (x0 + 7) (Int32.toNatClampNeg x2) ((dc_wi m (x0 + 7) (Int32.toNatClampNeg x1) (m.1 (x0 + 7) (Int32.toNatClampNeg ((m.1 x0 3) - (2 : Int32))))).1 (x0 + 7) (Int32.toNatClampNeg (((dc_wi m (x0 + 7) (Int32.toNatClampNeg x1) (m.1 (x0 + 7) (Int32.toNatClampNeg ((m.1 x0 3) - (2 : Int32))))).1 x0 3) - (1 : Int32))))).1 x0 3) - (2 : Int32))) x0 10 (((dc_wi (dc_wi (dc_wi m (x0 + 7) (Int32.toNatClampNeg x1) (m.1 (x0 + 7) (Int32.toNatClampNeg ((m.1 x0 3) - (2 : Int32))))) (x0 + 7) (Int32.toNatClampNeg x2) ((dc_wi m (x0 + 7) (Int32.toNatClampNeg x1) (m.1 (x0 + 7) (Int32.toNatClampNeg ((m.1 x0 3) - (2 : Int32))))).1 (x0 + 7) (Int32.toNatClampNeg (((dc_wi m (x0 + 7) (Int32.toNatClampNeg x1) (m.1 (x0 + 7) (Int32.toNatClampNeg ((m.1 x0 3) - (2 : Int32))))).1 x0 3) - (1 : Int32))))) x0 3 (((dc_wi (dc_wi m (x0 + 7) (Int32.toNatClampNeg x1) (m.1 (x0 + 7) (Int32.toNatClampNeg ((m.1 x0 3) - (2 : Int32))))) (x0 + 7) (Int32.toNatClampNeg x2) ((dc_wi m (x0 + 7) (Int32.toNatClampNeg x1) (m.1 (x0 + 7) (Int32.toNatClampNeg ((m.1 x0 3) - (2 : Int32))))).1 (x0 + 7) (Int32.toNatClampNeg (((dc_wi m (x0 + 7) (Int32.toNatClampNeg x1) (m.1 (x0 + 7) (Int32.toNatClampNeg ((m.1 x0 3) - (2 : Int32))))).1 x0 3) - (1 : Int32))))).1 x0 3) - (2 : Int32))).1 x0 10) - (2 : Int32))) x0 0 (((dc_wi (dc_wi (dc_wi (dc_wi m (x0 + 7) (Int32.toNatClampNeg x1) (m.1 (x0 + 7) (Int32.toNatClampNeg ((m.1 x0 3) - (2 : Int32))))) (x0 + 7) (Int32.toNatClampNeg x2) ((dc_wi m (x0 + 7) (Int32.toNatClampNeg x1) (m.1 (x0 + 7) (Int32.toNatClampNeg ((m.1 x0 3) - (2 : Int32))))).1 (x0 + 7) (Int32.toNatClampNeg (((dc_wi m (x0 + 7) (Int32.toNatClampNeg x1) (m.1 (x0 + 7) (Int32.toNatClampNeg ((m.1 x0 3) - (2 : Int32))))).1 x0 3) - (1 : Int32))))) x0 3 (((dc_wi (dc_wi m (x0 + 7) (Int32.toNatClampNeg x1) (m.1 (x0 + 7) (Int32.toNatClampNeg ((m.1 x0 3) - (2 : Int32))))) (x0 + 7) (Int32.toNatClampNeg x2) ((dc_wi m (x0 + 7) (Int32.toNatClampNeg x1) (m.1 (x0 + 7) (Int32.toNatClampNeg ((m.1 x0 3) - (2 : Int32))))).1 (x0 + 7) (Int32.toNatClampNeg (((dc_wi m (x0 + 7) (Int32.toNatClampNeg x1) (m.1 (x0 + 7) (Int32.toNatClampNeg ((m.1 x0 3) - (2 : Int32))))).1 x0 3) - (1 : Int32))))).1 x0 3) - (2 : Int32))) x0 10 (((dc_wi (dc_wi (dc_wi m (x0 + 7) (Int32.toNatClampNeg x1) (m.1 (x0 + 7) (Int32.toNatClampNeg ((m.1 x0 3) - (2 : Int32))))) (x0 + 7) (Int32.toNatClampNeg x2) ((dc_wi m (x0 + 7) (Int32.toNatClampNeg x1) (m.1 (x0 + 7) (Int32.toNatClampNeg ((m.1 x0 3) - (2 : Int32))))).1 (x0 + 7) (Int32.toNatClampNeg (((dc_wi m (x0 + 7) (Int32.toNatClampNeg x1) (m.1 (x0 + 7) (Int32.toNatClampNeg ((m.1 x0 3) - (2 : Int32))))).1 x0 3) - (1 : Int32))))) x0 3 (((dc_wi (dc_wi m (x0 + 7) (Int32.toNatClampNeg x1) (m.1 (x0 + 7) (Int32.toNatClampNeg ((m.1 x0 3) - (2 : Int32))))) (x0 + 7) (Int32.toNatClampNeg x2) ((dc_wi m (x0 + 7) (Int32.toNatClampNeg x1) (m.1 (x0 + 7) (Int32.toNatClampNeg ((m.1 x0 3) - (2 : Int32))))).1 (x0 + 7) (Int32.toNatClampNeg (((dc_wi m (x0 + 7) (Int32.toNatClampNeg x1) (m.1 (x0 + 7) (Int32.toNatClampNeg ((m.1 x0 3) - (2 : Int32))))).1 x0 3) - (1 : Int32))))).1 x0 3) - (2 : Int32))).1 x0 10) - (2 : Int32))).1 x0 0) - (1 : Int32)))
set_option maxHeartbeats 8000000 in
theorem k_X10_dropCure {u : Nat} {N : Nat} {Φ : dc_M → Option Value → dc_M → Prop} (x0 : Nat) (x1 : Int32) (x2 : Int32) (m : dc_M) (kR : ∀  (m : dc_M), Φ (m) (none) m)  {lv : ab_L} (f0 : ab_lk lv 0 = some (.ref x0)) (f1 : ab_lk lv 1 = some (.int x1)) (f2 : ab_lk lv 2 = some (.int x2)) : dc_pv u N ab_M_X10_dropCure 0 lv [] m (Φ (d_X10_dropCure x0 x1 x2 m)) := by
  refine dc_pv.mono (dc_ok (C := C_X10_dropCure) (S := S_X10_dropCure) CO_X10_dropCure 400 0 [(0, .ref x0), (1, .int x1), (2, .int x2)] lv [] m (dc_sub_cons f0 (dc_sub_cons f1 (dc_sub_cons f2 (dc_sub_nil)))) ?_) (Nat.le_succ N)
  unfold d_X10_dropCure
  refine dg_s (pc' := 1) [.ref x0] rfl (fun _ => rfl) rfl ?_
  refine dg_s (pc' := 4) [.ref (x0 + 7)] rfl (fun _ => rfl) rfl ?_
  refine dg_s (pc' := 5) [.int x1, .ref (x0 + 7)] rfl (fun _ => rfl) rfl ?_
  refine dg_s (pc' := 6) [.ref x0, .int x1, .ref (x0 + 7)] rfl (fun _ => rfl) rfl ?_
  refine dg_s (pc' := 9) [.ref (x0 + 7), .int x1, .ref (x0 + 7)] rfl (fun _ => rfl) rfl ?_
  refine dg_s (pc' := 10) [.ref x0, .ref (x0 + 7), .int x1, .ref (x0 + 7)] rfl (fun _ => rfl) rfl ?_
  refine dg_s (pc' := 13) [.int (m.1 x0 3), .ref (x0 + 7), .int x1, .ref (x0 + 7)] rfl (fun _ => rfl) rfl ?_
  refine dg_s (pc' := 14) [.int (2 : Int32), .int (m.1 x0 3), .ref (x0 + 7), .int x1, .ref (x0 + 7)] rfl (fun _ => rfl) rfl ?_
  refine dg_s (pc' := 15) [.int ((m.1 x0 3) - (2 : Int32)), .ref (x0 + 7), .int x1, .ref (x0 + 7)] rfl (fun _ => rfl) rfl ?_
  refine dg_s (pc' := 16) [.int (m.1 (x0 + 7) (Int32.toNatClampNeg ((m.1 x0 3) - (2 : Int32)))), .int x1, .ref (x0 + 7)] rfl (fun _ => rfl) rfl ?_
  refine dg_m (pc' := 17) (dc_wi m (x0 + 7) (Int32.toNatClampNeg x1) (m.1 (x0 + 7) (Int32.toNatClampNeg ((m.1 x0 3) - (2 : Int32))))) [] rfl (fun _ => rfl) rfl ?_
  refine dg_s (pc' := 18) [.ref x0] rfl (fun _ => rfl) rfl ?_
  refine dg_s (pc' := 21) [.ref (x0 + 7)] rfl (fun _ => rfl) rfl ?_
  refine dg_s (pc' := 22) [.int x2, .ref (x0 + 7)] rfl (fun _ => rfl) rfl ?_
  refine dg_s (pc' := 23) [.ref x0, .int x2, .ref (x0 + 7)] rfl (fun _ => rfl) rfl ?_
  refine dg_s (pc' := 26) [.ref (x0 + 7), .int x2, .ref (x0 + 7)] rfl (fun _ => rfl) rfl ?_
  refine dg_s (pc' := 27) [.ref x0, .ref (x0 + 7), .int x2, .ref (x0 + 7)] rfl (fun _ => rfl) rfl ?_
  refine dg_s (pc' := 30) [.int ((dc_wi m (x0 + 7) (Int32.toNatClampNeg x1) (m.1 (x0 + 7) (Int32.toNatClampNeg ((m.1 x0 3) - (2 : Int32))))).1 x0 3), .ref (x0 + 7), .int x2, .ref (x0 + 7)] rfl (fun _ => rfl) rfl ?_
  refine dg_s (pc' := 31) [.int (1 : Int32), .int ((dc_wi m (x0 + 7) (Int32.toNatClampNeg x1) (m.1 (x0 + 7) (Int32.toNatClampNeg ((m.1 x0 3) - (2 : Int32))))).1 x0 3), .ref (x0 + 7), .int x2, .ref (x0 + 7)] rfl (fun _ => rfl) rfl ?_
  refine dg_s (pc' := 32) [.int (((dc_wi m (x0 + 7) (Int32.toNatClampNeg x1) (m.1 (x0 + 7) (Int32.toNatClampNeg ((m.1 x0 3) - (2 : Int32))))).1 x0 3) - (1 : Int32)), .ref (x0 + 7), .int x2, .ref (x0 + 7)] rfl (fun _ => rfl) rfl ?_
  refine dg_s (pc' := 33) [.int ((dc_wi m (x0 + 7) (Int32.toNatClampNeg x1) (m.1 (x0 + 7) (Int32.toNatClampNeg ((m.1 x0 3) - (2 : Int32))))).1 (x0 + 7) (Int32.toNatClampNeg (((dc_wi m (x0 + 7) (Int32.toNatClampNeg x1) (m.1 (x0 + 7) (Int32.toNatClampNeg ((m.1 x0 3) - (2 : Int32))))).1 x0 3) - (1 : Int32)))), .int x2, .ref (x0 + 7)] rfl (fun _ => rfl) rfl ?_
  refine dg_m (pc' := 34) (dc_wi (dc_wi m (x0 + 7) (Int32.toNatClampNeg x1) (m.1 (x0 + 7) (Int32.toNatClampNeg ((m.1 x0 3) - (2 : Int32))))) (x0 + 7) (Int32.toNatClampNeg x2) ((dc_wi m (x0 + 7) (Int32.toNatClampNeg x1) (m.1 (x0 + 7) (Int32.toNatClampNeg ((m.1 x0 3) - (2 : Int32))))).1 (x0 + 7) (Int32.toNatClampNeg (((dc_wi m (x0 + 7) (Int32.toNatClampNeg x1) (m.1 (x0 + 7) (Int32.toNatClampNeg ((m.1 x0 3) - (2 : Int32))))).1 x0 3) - (1 : Int32))))) [] rfl (fun _ => rfl) rfl ?_
  refine dg_s (pc' := 35) [.ref x0] rfl (fun _ => rfl) rfl ?_
  refine dg_s (pc' := 36) [.ref x0, .ref x0] rfl (fun _ => rfl) rfl ?_
  refine dg_s (pc' := 39) [.int ((dc_wi (dc_wi m (x0 + 7) (Int32.toNatClampNeg x1) (m.1 (x0 + 7) (Int32.toNatClampNeg ((m.1 x0 3) - (2 : Int32))))) (x0 + 7) (Int32.toNatClampNeg x2) ((dc_wi m (x0 + 7) (Int32.toNatClampNeg x1) (m.1 (x0 + 7) (Int32.toNatClampNeg ((m.1 x0 3) - (2 : Int32))))).1 (x0 + 7) (Int32.toNatClampNeg (((dc_wi m (x0 + 7) (Int32.toNatClampNeg x1) (m.1 (x0 + 7) (Int32.toNatClampNeg ((m.1 x0 3) - (2 : Int32))))).1 x0 3) - (1 : Int32))))).1 x0 3), .ref x0] rfl (fun _ => rfl) rfl ?_
  refine dg_s (pc' := 40) [.int (2 : Int32), .int ((dc_wi (dc_wi m (x0 + 7) (Int32.toNatClampNeg x1) (m.1 (x0 + 7) (Int32.toNatClampNeg ((m.1 x0 3) - (2 : Int32))))) (x0 + 7) (Int32.toNatClampNeg x2) ((dc_wi m (x0 + 7) (Int32.toNatClampNeg x1) (m.1 (x0 + 7) (Int32.toNatClampNeg ((m.1 x0 3) - (2 : Int32))))).1 (x0 + 7) (Int32.toNatClampNeg (((dc_wi m (x0 + 7) (Int32.toNatClampNeg x1) (m.1 (x0 + 7) (Int32.toNatClampNeg ((m.1 x0 3) - (2 : Int32))))).1 x0 3) - (1 : Int32))))).1 x0 3), .ref x0] rfl (fun _ => rfl) rfl ?_
  refine dg_s (pc' := 41) [.int (((dc_wi (dc_wi m (x0 + 7) (Int32.toNatClampNeg x1) (m.1 (x0 + 7) (Int32.toNatClampNeg ((m.1 x0 3) - (2 : Int32))))) (x0 + 7) (Int32.toNatClampNeg x2) ((dc_wi m (x0 + 7) (Int32.toNatClampNeg x1) (m.1 (x0 + 7) (Int32.toNatClampNeg ((m.1 x0 3) - (2 : Int32))))).1 (x0 + 7) (Int32.toNatClampNeg (((dc_wi m (x0 + 7) (Int32.toNatClampNeg x1) (m.1 (x0 + 7) (Int32.toNatClampNeg ((m.1 x0 3) - (2 : Int32))))).1 x0 3) - (1 : Int32))))).1 x0 3) - (2 : Int32)), .ref x0] rfl (fun _ => rfl) rfl ?_
  refine dg_m (pc' := 44) (dc_wi (dc_wi (dc_wi m (x0 + 7) (Int32.toNatClampNeg x1) (m.1 (x0 + 7) (Int32.toNatClampNeg ((m.1 x0 3) - (2 : Int32))))) (x0 + 7) (Int32.toNatClampNeg x2) ((dc_wi m (x0 + 7) (Int32.toNatClampNeg x1) (m.1 (x0 + 7) (Int32.toNatClampNeg ((m.1 x0 3) - (2 : Int32))))).1 (x0 + 7) (Int32.toNatClampNeg (((dc_wi m (x0 + 7) (Int32.toNatClampNeg x1) (m.1 (x0 + 7) (Int32.toNatClampNeg ((m.1 x0 3) - (2 : Int32))))).1 x0 3) - (1 : Int32))))) x0 3 (((dc_wi (dc_wi m (x0 + 7) (Int32.toNatClampNeg x1) (m.1 (x0 + 7) (Int32.toNatClampNeg ((m.1 x0 3) - (2 : Int32))))) (x0 + 7) (Int32.toNatClampNeg x2) ((dc_wi m (x0 + 7) (Int32.toNatClampNeg x1) (m.1 (x0 + 7) (Int32.toNatClampNeg ((m.1 x0 3) - (2 : Int32))))).1 (x0 + 7) (Int32.toNatClampNeg (((dc_wi m (x0 + 7) (Int32.toNatClampNeg x1) (m.1 (x0 + 7) (Int32.toNatClampNeg ((m.1 x0 3) - (2 : Int32))))).1 x0 3) - (1 : Int32))))).1 x0 3) - (2 : Int32))) [] rfl (fun _ => rfl) rfl ?_
  refine dg_s (pc' := 45) [.ref x0] rfl (fun _ => rfl) rfl ?_
  refine dg_s (pc' := 46) [.ref x0, .ref x0] rfl (fun _ => rfl) rfl ?_
  refine dg_s (pc' := 49) [.int ((dc_wi (dc_wi (dc_wi m (x0 + 7) (Int32.toNatClampNeg x1) (m.1 (x0 + 7) (Int32.toNatClampNeg ((m.1 x0 3) - (2 : Int32))))) (x0 + 7) (Int32.toNatClampNeg x2) ((dc_wi m (x0 + 7) (Int32.toNatClampNeg x1) (m.1 (x0 + 7) (Int32.toNatClampNeg ((m.1 x0 3) - (2 : Int32))))).1 (x0 + 7) (Int32.toNatClampNeg (((dc_wi m (x0 + 7) (Int32.toNatClampNeg x1) (m.1 (x0 + 7) (Int32.toNatClampNeg ((m.1 x0 3) - (2 : Int32))))).1 x0 3) - (1 : Int32))))) x0 3 (((dc_wi (dc_wi m (x0 + 7) (Int32.toNatClampNeg x1) (m.1 (x0 + 7) (Int32.toNatClampNeg ((m.1 x0 3) - (2 : Int32))))) (x0 + 7) (Int32.toNatClampNeg x2) ((dc_wi m (x0 + 7) (Int32.toNatClampNeg x1) (m.1 (x0 + 7) (Int32.toNatClampNeg ((m.1 x0 3) - (2 : Int32))))).1 (x0 + 7) (Int32.toNatClampNeg (((dc_wi m (x0 + 7) (Int32.toNatClampNeg x1) (m.1 (x0 + 7) (Int32.toNatClampNeg ((m.1 x0 3) - (2 : Int32))))).1 x0 3) - (1 : Int32))))).1 x0 3) - (2 : Int32))).1 x0 10), .ref x0] rfl (fun _ => rfl) rfl ?_
  refine dg_s (pc' := 50) [.int (2 : Int32), .int ((dc_wi (dc_wi (dc_wi m (x0 + 7) (Int32.toNatClampNeg x1) (m.1 (x0 + 7) (Int32.toNatClampNeg ((m.1 x0 3) - (2 : Int32))))) (x0 + 7) (Int32.toNatClampNeg x2) ((dc_wi m (x0 + 7) (Int32.toNatClampNeg x1) (m.1 (x0 + 7) (Int32.toNatClampNeg ((m.1 x0 3) - (2 : Int32))))).1 (x0 + 7) (Int32.toNatClampNeg (((dc_wi m (x0 + 7) (Int32.toNatClampNeg x1) (m.1 (x0 + 7) (Int32.toNatClampNeg ((m.1 x0 3) - (2 : Int32))))).1 x0 3) - (1 : Int32))))) x0 3 (((dc_wi (dc_wi m (x0 + 7) (Int32.toNatClampNeg x1) (m.1 (x0 + 7) (Int32.toNatClampNeg ((m.1 x0 3) - (2 : Int32))))) (x0 + 7) (Int32.toNatClampNeg x2) ((dc_wi m (x0 + 7) (Int32.toNatClampNeg x1) (m.1 (x0 + 7) (Int32.toNatClampNeg ((m.1 x0 3) - (2 : Int32))))).1 (x0 + 7) (Int32.toNatClampNeg (((dc_wi m (x0 + 7) (Int32.toNatClampNeg x1) (m.1 (x0 + 7) (Int32.toNatClampNeg ((m.1 x0 3) - (2 : Int32))))).1 x0 3) - (1 : Int32))))).1 x0 3) - (2 : Int32))).1 x0 10), .ref x0] rfl (fun _ => rfl) rfl ?_
  refine dg_s (pc' := 51) [.int (((dc_wi (dc_wi (dc_wi m (x0 + 7) (Int32.toNatClampNeg x1) (m.1 (x0 + 7) (Int32.toNatClampNeg ((m.1 x0 3) - (2 : Int32))))) (x0 + 7) (Int32.toNatClampNeg x2) ((dc_wi m (x0 + 7) (Int32.toNatClampNeg x1) (m.1 (x0 + 7) (Int32.toNatClampNeg ((m.1 x0 3) - (2 : Int32))))).1 (x0 + 7) (Int32.toNatClampNeg (((dc_wi m (x0 + 7) (Int32.toNatClampNeg x1) (m.1 (x0 + 7) (Int32.toNatClampNeg ((m.1 x0 3) - (2 : Int32))))).1 x0 3) - (1 : Int32))))) x0 3 (((dc_wi (dc_wi m (x0 + 7) (Int32.toNatClampNeg x1) (m.1 (x0 + 7) (Int32.toNatClampNeg ((m.1 x0 3) - (2 : Int32))))) (x0 + 7) (Int32.toNatClampNeg x2) ((dc_wi m (x0 + 7) (Int32.toNatClampNeg x1) (m.1 (x0 + 7) (Int32.toNatClampNeg ((m.1 x0 3) - (2 : Int32))))).1 (x0 + 7) (Int32.toNatClampNeg (((dc_wi m (x0 + 7) (Int32.toNatClampNeg x1) (m.1 (x0 + 7) (Int32.toNatClampNeg ((m.1 x0 3) - (2 : Int32))))).1 x0 3) - (1 : Int32))))).1 x0 3) - (2 : Int32))).1 x0 10) - (2 : Int32)), .ref x0] rfl (fun _ => rfl) rfl ?_
  refine dg_m (pc' := 54) (dc_wi (dc_wi (dc_wi (dc_wi m (x0 + 7) (Int32.toNatClampNeg x1) (m.1 (x0 + 7) (Int32.toNatClampNeg ((m.1 x0 3) - (2 : Int32))))) (x0 + 7) (Int32.toNatClampNeg x2) ((dc_wi m (x0 + 7) (Int32.toNatClampNeg x1) (m.1 (x0 + 7) (Int32.toNatClampNeg ((m.1 x0 3) - (2 : Int32))))).1 (x0 + 7) (Int32.toNatClampNeg (((dc_wi m (x0 + 7) (Int32.toNatClampNeg x1) (m.1 (x0 + 7) (Int32.toNatClampNeg ((m.1 x0 3) - (2 : Int32))))).1 x0 3) - (1 : Int32))))) x0 3 (((dc_wi (dc_wi m (x0 + 7) (Int32.toNatClampNeg x1) (m.1 (x0 + 7) (Int32.toNatClampNeg ((m.1 x0 3) - (2 : Int32))))) (x0 + 7) (Int32.toNatClampNeg x2) ((dc_wi m (x0 + 7) (Int32.toNatClampNeg x1) (m.1 (x0 + 7) (Int32.toNatClampNeg ((m.1 x0 3) - (2 : Int32))))).1 (x0 + 7) (Int32.toNatClampNeg (((dc_wi m (x0 + 7) (Int32.toNatClampNeg x1) (m.1 (x0 + 7) (Int32.toNatClampNeg ((m.1 x0 3) - (2 : Int32))))).1 x0 3) - (1 : Int32))))).1 x0 3) - (2 : Int32))) x0 10 (((dc_wi (dc_wi (dc_wi m (x0 + 7) (Int32.toNatClampNeg x1) (m.1 (x0 + 7) (Int32.toNatClampNeg ((m.1 x0 3) - (2 : Int32))))) (x0 + 7) (Int32.toNatClampNeg x2) ((dc_wi m (x0 + 7) (Int32.toNatClampNeg x1) (m.1 (x0 + 7) (Int32.toNatClampNeg ((m.1 x0 3) - (2 : Int32))))).1 (x0 + 7) (Int32.toNatClampNeg (((dc_wi m (x0 + 7) (Int32.toNatClampNeg x1) (m.1 (x0 + 7) (Int32.toNatClampNeg ((m.1 x0 3) - (2 : Int32))))).1 x0 3) - (1 : Int32))))) x0 3 (((dc_wi (dc_wi m (x0 + 7) (Int32.toNatClampNeg x1) (m.1 (x0 + 7) (Int32.toNatClampNeg ((m.1 x0 3) - (2 : Int32))))) (x0 + 7) (Int32.toNatClampNeg x2) ((dc_wi m (x0 + 7) (Int32.toNatClampNeg x1) (m.1 (x0 + 7) (Int32.toNatClampNeg ((m.1 x0 3) - (2 : Int32))))).1 (x0 + 7) (Int32.toNatClampNeg (((dc_wi m (x0 + 7) (Int32.toNatClampNeg x1) (m.1 (x0 + 7) (Int32.toNatClampNeg ((m.1 x0 3) - (2 : Int32))))).1 x0 3) - (1 : Int32))))).1 x0 3) - (2 : Int32))).1 x0 10) - (2 : Int32))) [] rfl (fun _ => rfl) rfl ?_
  refine dg_s (pc' := 55) [.ref x0] rfl (fun _ => rfl) rfl ?_
  refine dg_s (pc' := 56) [.ref x0, .ref x0] rfl (fun _ => rfl) rfl ?_
  refine dg_s (pc' := 59) [.int ((dc_wi (dc_wi (dc_wi (dc_wi m (x0 + 7) (Int32.toNatClampNeg x1) (m.1 (x0 + 7) (Int32.toNatClampNeg ((m.1 x0 3) - (2 : Int32))))) (x0 + 7) (Int32.toNatClampNeg x2) ((dc_wi m (x0 + 7) (Int32.toNatClampNeg x1) (m.1 (x0 + 7) (Int32.toNatClampNeg ((m.1 x0 3) - (2 : Int32))))).1 (x0 + 7) (Int32.toNatClampNeg (((dc_wi m (x0 + 7) (Int32.toNatClampNeg x1) (m.1 (x0 + 7) (Int32.toNatClampNeg ((m.1 x0 3) - (2 : Int32))))).1 x0 3) - (1 : Int32))))) x0 3 (((dc_wi (dc_wi m (x0 + 7) (Int32.toNatClampNeg x1) (m.1 (x0 + 7) (Int32.toNatClampNeg ((m.1 x0 3) - (2 : Int32))))) (x0 + 7) (Int32.toNatClampNeg x2) ((dc_wi m (x0 + 7) (Int32.toNatClampNeg x1) (m.1 (x0 + 7) (Int32.toNatClampNeg ((m.1 x0 3) - (2 : Int32))))).1 (x0 + 7) (Int32.toNatClampNeg (((dc_wi m (x0 + 7) (Int32.toNatClampNeg x1) (m.1 (x0 + 7) (Int32.toNatClampNeg ((m.1 x0 3) - (2 : Int32))))).1 x0 3) - (1 : Int32))))).1 x0 3) - (2 : Int32))) x0 10 (((dc_wi (dc_wi (dc_wi m (x0 + 7) (Int32.toNatClampNeg x1) (m.1 (x0 + 7) (Int32.toNatClampNeg ((m.1 x0 3) - (2 : Int32))))) (x0 + 7) (Int32.toNatClampNeg x2) ((dc_wi m (x0 + 7) (Int32.toNatClampNeg x1) (m.1 (x0 + 7) (Int32.toNatClampNeg ((m.1 x0 3) - (2 : Int32))))).1 (x0 + 7) (Int32.toNatClampNeg (((dc_wi m (x0 + 7) (Int32.toNatClampNeg x1) (m.1 (x0 + 7) (Int32.toNatClampNeg ((m.1 x0 3) - (2 : Int32))))).1 x0 3) - (1 : Int32))))) x0 3 (((dc_wi (dc_wi m (x0 + 7) (Int32.toNatClampNeg x1) (m.1 (x0 + 7) (Int32.toNatClampNeg ((m.1 x0 3) - (2 : Int32))))) (x0 + 7) (Int32.toNatClampNeg x2) ((dc_wi m (x0 + 7) (Int32.toNatClampNeg x1) (m.1 (x0 + 7) (Int32.toNatClampNeg ((m.1 x0 3) - (2 : Int32))))).1 (x0 + 7) (Int32.toNatClampNeg (((dc_wi m (x0 + 7) (Int32.toNatClampNeg x1) (m.1 (x0 + 7) (Int32.toNatClampNeg ((m.1 x0 3) - (2 : Int32))))).1 x0 3) - (1 : Int32))))).1 x0 3) - (2 : Int32))).1 x0 10) - (2 : Int32))).1 x0 0), .ref x0] rfl (fun _ => rfl) rfl ?_
  refine dg_s (pc' := 60) [.int (1 : Int32), .int ((dc_wi (dc_wi (dc_wi (dc_wi m (x0 + 7) (Int32.toNatClampNeg x1) (m.1 (x0 + 7) (Int32.toNatClampNeg ((m.1 x0 3) - (2 : Int32))))) (x0 + 7) (Int32.toNatClampNeg x2) ((dc_wi m (x0 + 7) (Int32.toNatClampNeg x1) (m.1 (x0 + 7) (Int32.toNatClampNeg ((m.1 x0 3) - (2 : Int32))))).1 (x0 + 7) (Int32.toNatClampNeg (((dc_wi m (x0 + 7) (Int32.toNatClampNeg x1) (m.1 (x0 + 7) (Int32.toNatClampNeg ((m.1 x0 3) - (2 : Int32))))).1 x0 3) - (1 : Int32))))) x0 3 (((dc_wi (dc_wi m (x0 + 7) (Int32.toNatClampNeg x1) (m.1 (x0 + 7) (Int32.toNatClampNeg ((m.1 x0 3) - (2 : Int32))))) (x0 + 7) (Int32.toNatClampNeg x2) ((dc_wi m (x0 + 7) (Int32.toNatClampNeg x1) (m.1 (x0 + 7) (Int32.toNatClampNeg ((m.1 x0 3) - (2 : Int32))))).1 (x0 + 7) (Int32.toNatClampNeg (((dc_wi m (x0 + 7) (Int32.toNatClampNeg x1) (m.1 (x0 + 7) (Int32.toNatClampNeg ((m.1 x0 3) - (2 : Int32))))).1 x0 3) - (1 : Int32))))).1 x0 3) - (2 : Int32))) x0 10 (((dc_wi (dc_wi (dc_wi m (x0 + 7) (Int32.toNatClampNeg x1) (m.1 (x0 + 7) (Int32.toNatClampNeg ((m.1 x0 3) - (2 : Int32))))) (x0 + 7) (Int32.toNatClampNeg x2) ((dc_wi m (x0 + 7) (Int32.toNatClampNeg x1) (m.1 (x0 + 7) (Int32.toNatClampNeg ((m.1 x0 3) - (2 : Int32))))).1 (x0 + 7) (Int32.toNatClampNeg (((dc_wi m (x0 + 7) (Int32.toNatClampNeg x1) (m.1 (x0 + 7) (Int32.toNatClampNeg ((m.1 x0 3) - (2 : Int32))))).1 x0 3) - (1 : Int32))))) x0 3 (((dc_wi (dc_wi m (x0 + 7) (Int32.toNatClampNeg x1) (m.1 (x0 + 7) (Int32.toNatClampNeg ((m.1 x0 3) - (2 : Int32))))) (x0 + 7) (Int32.toNatClampNeg x2) ((dc_wi m (x0 + 7) (Int32.toNatClampNeg x1) (m.1 (x0 + 7) (Int32.toNatClampNeg ((m.1 x0 3) - (2 : Int32))))).1 (x0 + 7) (Int32.toNatClampNeg (((dc_wi m (x0 + 7) (Int32.toNatClampNeg x1) (m.1 (x0 + 7) (Int32.toNatClampNeg ((m.1 x0 3) - (2 : Int32))))).1 x0 3) - (1 : Int32))))).1 x0 3) - (2 : Int32))).1 x0 10) - (2 : Int32))).1 x0 0), .ref x0] rfl (fun _ => rfl) rfl ?_
  refine dg_s (pc' := 61) [.int (((dc_wi (dc_wi (dc_wi (dc_wi m (x0 + 7) (Int32.toNatClampNeg x1) (m.1 (x0 + 7) (Int32.toNatClampNeg ((m.1 x0 3) - (2 : Int32))))) (x0 + 7) (Int32.toNatClampNeg x2) ((dc_wi m (x0 + 7) (Int32.toNatClampNeg x1) (m.1 (x0 + 7) (Int32.toNatClampNeg ((m.1 x0 3) - (2 : Int32))))).1 (x0 + 7) (Int32.toNatClampNeg (((dc_wi m (x0 + 7) (Int32.toNatClampNeg x1) (m.1 (x0 + 7) (Int32.toNatClampNeg ((m.1 x0 3) - (2 : Int32))))).1 x0 3) - (1 : Int32))))) x0 3 (((dc_wi (dc_wi m (x0 + 7) (Int32.toNatClampNeg x1) (m.1 (x0 + 7) (Int32.toNatClampNeg ((m.1 x0 3) - (2 : Int32))))) (x0 + 7) (Int32.toNatClampNeg x2) ((dc_wi m (x0 + 7) (Int32.toNatClampNeg x1) (m.1 (x0 + 7) (Int32.toNatClampNeg ((m.1 x0 3) - (2 : Int32))))).1 (x0 + 7) (Int32.toNatClampNeg (((dc_wi m (x0 + 7) (Int32.toNatClampNeg x1) (m.1 (x0 + 7) (Int32.toNatClampNeg ((m.1 x0 3) - (2 : Int32))))).1 x0 3) - (1 : Int32))))).1 x0 3) - (2 : Int32))) x0 10 (((dc_wi (dc_wi (dc_wi m (x0 + 7) (Int32.toNatClampNeg x1) (m.1 (x0 + 7) (Int32.toNatClampNeg ((m.1 x0 3) - (2 : Int32))))) (x0 + 7) (Int32.toNatClampNeg x2) ((dc_wi m (x0 + 7) (Int32.toNatClampNeg x1) (m.1 (x0 + 7) (Int32.toNatClampNeg ((m.1 x0 3) - (2 : Int32))))).1 (x0 + 7) (Int32.toNatClampNeg (((dc_wi m (x0 + 7) (Int32.toNatClampNeg x1) (m.1 (x0 + 7) (Int32.toNatClampNeg ((m.1 x0 3) - (2 : Int32))))).1 x0 3) - (1 : Int32))))) x0 3 (((dc_wi (dc_wi m (x0 + 7) (Int32.toNatClampNeg x1) (m.1 (x0 + 7) (Int32.toNatClampNeg ((m.1 x0 3) - (2 : Int32))))) (x0 + 7) (Int32.toNatClampNeg x2) ((dc_wi m (x0 + 7) (Int32.toNatClampNeg x1) (m.1 (x0 + 7) (Int32.toNatClampNeg ((m.1 x0 3) - (2 : Int32))))).1 (x0 + 7) (Int32.toNatClampNeg (((dc_wi m (x0 + 7) (Int32.toNatClampNeg x1) (m.1 (x0 + 7) (Int32.toNatClampNeg ((m.1 x0 3) - (2 : Int32))))).1 x0 3) - (1 : Int32))))).1 x0 3) - (2 : Int32))).1 x0 10) - (2 : Int32))).1 x0 0) - (1 : Int32)), .ref x0] rfl (fun _ => rfl) rfl ?_
  refine dg_m (pc' := 64) (dc_wi (dc_wi (dc_wi (dc_wi (dc_wi m (x0 + 7) (Int32.toNatClampNeg x1) (m.1 (x0 + 7) (Int32.toNatClampNeg ((m.1 x0 3) - (2 : Int32))))) (x0 + 7) (Int32.toNatClampNeg x2) ((dc_wi m (x0 + 7) (Int32.toNatClampNeg x1) (m.1 (x0 + 7) (Int32.toNatClampNeg ((m.1 x0 3) - (2 : Int32))))).1 (x0 + 7) (Int32.toNatClampNeg (((dc_wi m (x0 + 7) (Int32.toNatClampNeg x1) (m.1 (x0 + 7) (Int32.toNatClampNeg ((m.1 x0 3) - (2 : Int32))))).1 x0 3) - (1 : Int32))))) x0 3 (((dc_wi (dc_wi m (x0 + 7) (Int32.toNatClampNeg x1) (m.1 (x0 + 7) (Int32.toNatClampNeg ((m.1 x0 3) - (2 : Int32))))) (x0 + 7) (Int32.toNatClampNeg x2) ((dc_wi m (x0 + 7) (Int32.toNatClampNeg x1) (m.1 (x0 + 7) (Int32.toNatClampNeg ((m.1 x0 3) - (2 : Int32))))).1 (x0 + 7) (Int32.toNatClampNeg (((dc_wi m (x0 + 7) (Int32.toNatClampNeg x1) (m.1 (x0 + 7) (Int32.toNatClampNeg ((m.1 x0 3) - (2 : Int32))))).1 x0 3) - (1 : Int32))))).1 x0 3) - (2 : Int32))) x0 10 (((dc_wi (dc_wi (dc_wi m (x0 + 7) (Int32.toNatClampNeg x1) (m.1 (x0 + 7) (Int32.toNatClampNeg ((m.1 x0 3) - (2 : Int32))))) (x0 + 7) (Int32.toNatClampNeg x2) ((dc_wi m (x0 + 7) (Int32.toNatClampNeg x1) (m.1 (x0 + 7) (Int32.toNatClampNeg ((m.1 x0 3) - (2 : Int32))))).1 (x0 + 7) (Int32.toNatClampNeg (((dc_wi m (x0 + 7) (Int32.toNatClampNeg x1) (m.1 (x0 + 7) (Int32.toNatClampNeg ((m.1 x0 3) - (2 : Int32))))).1 x0 3) - (1 : Int32))))) x0 3 (((dc_wi (dc_wi m (x0 + 7) (Int32.toNatClampNeg x1) (m.1 (x0 + 7) (Int32.toNatClampNeg ((m.1 x0 3) - (2 : Int32))))) (x0 + 7) (Int32.toNatClampNeg x2) ((dc_wi m (x0 + 7) (Int32.toNatClampNeg x1) (m.1 (x0 + 7) (Int32.toNatClampNeg ((m.1 x0 3) - (2 : Int32))))).1 (x0 + 7) (Int32.toNatClampNeg (((dc_wi m (x0 + 7) (Int32.toNatClampNeg x1) (m.1 (x0 + 7) (Int32.toNatClampNeg ((m.1 x0 3) - (2 : Int32))))).1 x0 3) - (1 : Int32))))).1 x0 3) - (2 : Int32))).1 x0 10) - (2 : Int32))) x0 0 (((dc_wi (dc_wi (dc_wi (dc_wi m (x0 + 7) (Int32.toNatClampNeg x1) (m.1 (x0 + 7) (Int32.toNatClampNeg ((m.1 x0 3) - (2 : Int32))))) (x0 + 7) (Int32.toNatClampNeg x2) ((dc_wi m (x0 + 7) (Int32.toNatClampNeg x1) (m.1 (x0 + 7) (Int32.toNatClampNeg ((m.1 x0 3) - (2 : Int32))))).1 (x0 + 7) (Int32.toNatClampNeg (((dc_wi m (x0 + 7) (Int32.toNatClampNeg x1) (m.1 (x0 + 7) (Int32.toNatClampNeg ((m.1 x0 3) - (2 : Int32))))).1 x0 3) - (1 : Int32))))) x0 3 (((dc_wi (dc_wi m (x0 + 7) (Int32.toNatClampNeg x1) (m.1 (x0 + 7) (Int32.toNatClampNeg ((m.1 x0 3) - (2 : Int32))))) (x0 + 7) (Int32.toNatClampNeg x2) ((dc_wi m (x0 + 7) (Int32.toNatClampNeg x1) (m.1 (x0 + 7) (Int32.toNatClampNeg ((m.1 x0 3) - (2 : Int32))))).1 (x0 + 7) (Int32.toNatClampNeg (((dc_wi m (x0 + 7) (Int32.toNatClampNeg x1) (m.1 (x0 + 7) (Int32.toNatClampNeg ((m.1 x0 3) - (2 : Int32))))).1 x0 3) - (1 : Int32))))).1 x0 3) - (2 : Int32))) x0 10 (((dc_wi (dc_wi (dc_wi m (x0 + 7) (Int32.toNatClampNeg x1) (m.1 (x0 + 7) (Int32.toNatClampNeg ((m.1 x0 3) - (2 : Int32))))) (x0 + 7) (Int32.toNatClampNeg x2) ((dc_wi m (x0 + 7) (Int32.toNatClampNeg x1) (m.1 (x0 + 7) (Int32.toNatClampNeg ((m.1 x0 3) - (2 : Int32))))).1 (x0 + 7) (Int32.toNatClampNeg (((dc_wi m (x0 + 7) (Int32.toNatClampNeg x1) (m.1 (x0 + 7) (Int32.toNatClampNeg ((m.1 x0 3) - (2 : Int32))))).1 x0 3) - (1 : Int32))))) x0 3 (((dc_wi (dc_wi m (x0 + 7) (Int32.toNatClampNeg x1) (m.1 (x0 + 7) (Int32.toNatClampNeg ((m.1 x0 3) - (2 : Int32))))) (x0 + 7) (Int32.toNatClampNeg x2) ((dc_wi m (x0 + 7) (Int32.toNatClampNeg x1) (m.1 (x0 + 7) (Int32.toNatClampNeg ((m.1 x0 3) - (2 : Int32))))).1 (x0 + 7) (Int32.toNatClampNeg (((dc_wi m (x0 + 7) (Int32.toNatClampNeg x1) (m.1 (x0 + 7) (Int32.toNatClampNeg ((m.1 x0 3) - (2 : Int32))))).1 x0 3) - (1 : Int32))))).1 x0 3) - (2 : Int32))).1 x0 10) - (2 : Int32))).1 x0 0) - (1 : Int32))) [] rfl (fun _ => rfl) rfl ?_
  exact dw_r (some (.inl (none, (dc_wi (dc_wi (dc_wi (dc_wi (dc_wi m (x0 + 7) (Int32.toNatClampNeg x1) (m.1 (x0 + 7) (Int32.toNatClampNeg ((m.1 x0 3) - (2 : Int32))))) (x0 + 7) (Int32.toNatClampNeg x2) ((dc_wi m (x0 + 7) (Int32.toNatClampNeg x1) (m.1 (x0 + 7) (Int32.toNatClampNeg ((m.1 x0 3) - (2 : Int32))))).1 (x0 + 7) (Int32.toNatClampNeg (((dc_wi m (x0 + 7) (Int32.toNatClampNeg x1) (m.1 (x0 + 7) (Int32.toNatClampNeg ((m.1 x0 3) - (2 : Int32))))).1 x0 3) - (1 : Int32))))) x0 3 (((dc_wi (dc_wi m (x0 + 7) (Int32.toNatClampNeg x1) (m.1 (x0 + 7) (Int32.toNatClampNeg ((m.1 x0 3) - (2 : Int32))))) (x0 + 7) (Int32.toNatClampNeg x2) ((dc_wi m (x0 + 7) (Int32.toNatClampNeg x1) (m.1 (x0 + 7) (Int32.toNatClampNeg ((m.1 x0 3) - (2 : Int32))))).1 (x0 + 7) (Int32.toNatClampNeg (((dc_wi m (x0 + 7) (Int32.toNatClampNeg x1) (m.1 (x0 + 7) (Int32.toNatClampNeg ((m.1 x0 3) - (2 : Int32))))).1 x0 3) - (1 : Int32))))).1 x0 3) - (2 : Int32))) x0 10 (((dc_wi (dc_wi (dc_wi m (x0 + 7) (Int32.toNatClampNeg x1) (m.1 (x0 + 7) (Int32.toNatClampNeg ((m.1 x0 3) - (2 : Int32))))) (x0 + 7) (Int32.toNatClampNeg x2) ((dc_wi m (x0 + 7) (Int32.toNatClampNeg x1) (m.1 (x0 + 7) (Int32.toNatClampNeg ((m.1 x0 3) - (2 : Int32))))).1 (x0 + 7) (Int32.toNatClampNeg (((dc_wi m (x0 + 7) (Int32.toNatClampNeg x1) (m.1 (x0 + 7) (Int32.toNatClampNeg ((m.1 x0 3) - (2 : Int32))))).1 x0 3) - (1 : Int32))))) x0 3 (((dc_wi (dc_wi m (x0 + 7) (Int32.toNatClampNeg x1) (m.1 (x0 + 7) (Int32.toNatClampNeg ((m.1 x0 3) - (2 : Int32))))) (x0 + 7) (Int32.toNatClampNeg x2) ((dc_wi m (x0 + 7) (Int32.toNatClampNeg x1) (m.1 (x0 + 7) (Int32.toNatClampNeg ((m.1 x0 3) - (2 : Int32))))).1 (x0 + 7) (Int32.toNatClampNeg (((dc_wi m (x0 + 7) (Int32.toNatClampNeg x1) (m.1 (x0 + 7) (Int32.toNatClampNeg ((m.1 x0 3) - (2 : Int32))))).1 x0 3) - (1 : Int32))))).1 x0 3) - (2 : Int32))).1 x0 10) - (2 : Int32))) x0 0 (((dc_wi (dc_wi (dc_wi (dc_wi m (x0 + 7) (Int32.toNatClampNeg x1) (m.1 (x0 + 7) (Int32.toNatClampNeg ((m.1 x0 3) - (2 : Int32))))) (x0 + 7) (Int32.toNatClampNeg x2) ((dc_wi m (x0 + 7) (Int32.toNatClampNeg x1) (m.1 (x0 + 7) (Int32.toNatClampNeg ((m.1 x0 3) - (2 : Int32))))).1 (x0 + 7) (Int32.toNatClampNeg (((dc_wi m (x0 + 7) (Int32.toNatClampNeg x1) (m.1 (x0 + 7) (Int32.toNatClampNeg ((m.1 x0 3) - (2 : Int32))))).1 x0 3) - (1 : Int32))))) x0 3 (((dc_wi (dc_wi m (x0 + 7) (Int32.toNatClampNeg x1) (m.1 (x0 + 7) (Int32.toNatClampNeg ((m.1 x0 3) - (2 : Int32))))) (x0 + 7) (Int32.toNatClampNeg x2) ((dc_wi m (x0 + 7) (Int32.toNatClampNeg x1) (m.1 (x0 + 7) (Int32.toNatClampNeg ((m.1 x0 3) - (2 : Int32))))).1 (x0 + 7) (Int32.toNatClampNeg (((dc_wi m (x0 + 7) (Int32.toNatClampNeg x1) (m.1 (x0 + 7) (Int32.toNatClampNeg ((m.1 x0 3) - (2 : Int32))))).1 x0 3) - (1 : Int32))))).1 x0 3) - (2 : Int32))) x0 10 (((dc_wi (dc_wi (dc_wi m (x0 + 7) (Int32.toNatClampNeg x1) (m.1 (x0 + 7) (Int32.toNatClampNeg ((m.1 x0 3) - (2 : Int32))))) (x0 + 7) (Int32.toNatClampNeg x2) ((dc_wi m (x0 + 7) (Int32.toNatClampNeg x1) (m.1 (x0 + 7) (Int32.toNatClampNeg ((m.1 x0 3) - (2 : Int32))))).1 (x0 + 7) (Int32.toNatClampNeg (((dc_wi m (x0 + 7) (Int32.toNatClampNeg x1) (m.1 (x0 + 7) (Int32.toNatClampNeg ((m.1 x0 3) - (2 : Int32))))).1 x0 3) - (1 : Int32))))) x0 3 (((dc_wi (dc_wi m (x0 + 7) (Int32.toNatClampNeg x1) (m.1 (x0 + 7) (Int32.toNatClampNeg ((m.1 x0 3) - (2 : Int32))))) (x0 + 7) (Int32.toNatClampNeg x2) ((dc_wi m (x0 + 7) (Int32.toNatClampNeg x1) (m.1 (x0 + 7) (Int32.toNatClampNeg ((m.1 x0 3) - (2 : Int32))))).1 (x0 + 7) (Int32.toNatClampNeg (((dc_wi m (x0 + 7) (Int32.toNatClampNeg x1) (m.1 (x0 + 7) (Int32.toNatClampNeg ((m.1 x0 3) - (2 : Int32))))).1 x0 3) - (1 : Int32))))).1 x0 3) - (2 : Int32))).1 x0 10) - (2 : Int32))).1 x0 0) - (1 : Int32)))))) rfl (fun _ => rfl) (kR _)
def H_X10_dropCure : dc_H := fun As m k => match As with
  | [.ref x0, .int x1, .int x2] => dc_let (d_X10_dropCure x0 x1 x2 m) (fun q => k (none) q)
  | _ => dc_kz
theorem H_X10_dropCure_ok {u : Nat} : dc_cok u 206 H_X10_dropCure := fun M' hG N As m k P hz hP => by
  obtain rfl : ab_M_X10_dropCure = M' := Option.some.inj hG
  unfold H_X10_dropCure at hP
  split at hP
  · rename_i x0 x1 x2
    exact dc_pv.imp (k_X10_dropCure (Φ := fun (t : dc_M) r m' => P (dc_let t (fun q => k (none) q)) → P (k r m')) x0 x1 x2 m (fun _ h => h) rfl rfl rfl) (fun r m' h => h hP)
  · exact absurd hP hz
noncomputable def C_X10_tryCure : List (Nat × dc_H) := [(205, H_X10_addCure), (206, H_X10_dropCure), (185, H_X10_layBacks), (183, H_X10_layQuarrels), (175, H_X10_layRight)]
theorem CO_X10_tryCure {u : Nat} : dc_CO u C_X10_tryCure := dc_CO_cons H_X10_addCure_ok (dc_CO_cons H_X10_dropCure_ok (dc_CO_cons H_X10_layBacks_ok (dc_CO_cons H_X10_layQuarrels_ok (dc_CO_cons H_X10_layRight_ok (dc_CO_nil)))))
def S_X10_tryCure : List (Nat × List Nat) := []
noncomputable def d_X10_tryCure (x0 : Nat) (x1 : Int32) (x2 : Int32) (m : dc_M) : Option (Int32 × dc_M) :=
  ((d_X10_addCure x0 x1 x2 m).bind (fun q1 => ((d_X10_layRight x0 q1).bind (fun q2 => (if (Int32.toInt q2.1) = 0 then (dc_let (d_X10_dropCure x0 x1 x2 q2.2) (fun q3 => some (((-10 : Int32), q3)))) else ((d_X10_layBacks x0 q2.2).bind (fun q4 => ((d_X10_layQuarrels x0 q4).bind (fun q5 => (if (Int32.toInt (q5.1 x0 43)) ≤ 0 then (dc_let (d_X10_dropCure x0 x1 x2 q5) (fun q6 => some (((q5.1 x0 40), q6)))) else (dc_let (d_X10_dropCure x0 x1 x2 q5) (fun q7 => some (((-11 : Int32), q7))))))))))))))
set_option maxHeartbeats 8000000 in
theorem k_X10_tryCure {u : Nat} {N : Nat} {Φ : (Option (Int32 × dc_M)) → Option Value → dc_M → Prop} (x0 : Nat) (x1 : Int32) (x2 : Int32) (m : dc_M) (kR : ∀ (v : Int32) (m : dc_M), Φ (some ((v, m))) (some (.int v)) m)  {lv : ab_L} (f0 : ab_lk lv 0 = some (.ref x0)) (f1 : ab_lk lv 1 = some (.int x1)) (f2 : ab_lk lv 2 = some (.int x2)) : dc_pv u N ab_M_X10_tryCure 0 lv [] m (Φ (d_X10_tryCure x0 x1 x2 m)) := by
  refine dc_pv.mono (dc_ok (C := C_X10_tryCure) (S := S_X10_tryCure) CO_X10_tryCure 400 0 [(0, .ref x0), (1, .int x1), (2, .int x2)] lv [] m (dc_sub_cons f0 (dc_sub_cons f1 (dc_sub_cons f2 (dc_sub_nil)))) ?_) (Nat.le_succ N)
  unfold d_X10_tryCure
  refine dg_s (pc' := 1) [.ref x0] rfl (fun _ => rfl) rfl ?_
  refine dg_s (pc' := 2) [.int x1, .ref x0] rfl (fun _ => rfl) rfl ?_
  refine dg_s (pc' := 3) [.int x2, .int x1, .ref x0] rfl (fun _ => rfl) rfl ?_
  refine dw_b (fun t => Φ t) (pc' := 6) (fun q1 => []) (fun q1 => q1) rfl (fun _ => rfl) (fun q1 => ?_)
  refine dw_g rfl ?_
  refine dg_s (pc' := 8) [.int (-10 : Int32)] rfl (fun _ => rfl) rfl ?_
  refine dg_L (pc' := 9) [(3, .int (-10 : Int32)), (0, .ref x0), (1, .int x1), (2, .int x2)] [] rfl (fun _ => rfl) rfl ?_
  refine dg_s (pc' := 10) [.ref x0] rfl (fun _ => rfl) rfl ?_
  refine dw_b (fun t => Φ t) (pc' := 13) (fun q2 => [.int q2.1]) (fun q2 => q2.2) rfl (fun _ => rfl) (fun q2 => ?_)
  refine dw_g rfl ?_
  refine dw_if (fun t => Φ t) ((Int32.toInt q2.1) = 0) [] 41 16 rfl (fun _ => rfl) (fun c0 => ?_) (fun c0 => ?_)
  · refine dw_g rfl ?_
    refine dg_s (pc' := 42) [.ref x0] rfl (fun _ => rfl) rfl ?_
    refine dg_s (pc' := 43) [.int x1, .ref x0] rfl (fun _ => rfl) rfl ?_
    refine dg_s (pc' := 44) [.int x2, .int x1, .ref x0] rfl (fun _ => rfl) rfl ?_
    refine dw_l (fun t => Φ t) (pc' := 47) (fun q3 => []) (fun q3 => q3) rfl (fun _ => rfl) (fun q3 => ?_)
    refine dw_g rfl ?_
    refine dg_s (pc' := 48) [.int (-10 : Int32)] rfl (fun _ => rfl) rfl ?_
    exact dw_r (some (.inl (some (.int (-10 : Int32)), q3))) rfl (fun _ => rfl) (kR _ _)
  · refine dw_g rfl ?_
    refine dg_s (pc' := 17) [.ref x0] rfl (fun _ => rfl) rfl ?_
    refine dw_b (fun t => Φ t) (pc' := 20) (fun q4 => []) (fun q4 => q4) rfl (fun _ => rfl) (fun q4 => ?_)
    refine dw_g rfl ?_
    refine dg_s (pc' := 21) [.ref x0] rfl (fun _ => rfl) rfl ?_
    refine dw_b (fun t => Φ t) (pc' := 24) (fun q5 => []) (fun q5 => q5) rfl (fun _ => rfl) (fun q5 => ?_)
    refine dw_g rfl ?_
    refine dg_s (pc' := 25) [.ref x0] rfl (fun _ => rfl) rfl ?_
    refine dg_s (pc' := 28) [.int (q5.1 x0 43)] rfl (fun _ => rfl) rfl ?_
    refine dw_if (fun t => Φ t) ((Int32.toInt (q5.1 x0 43)) ≤ 0) [] 36 31 rfl (fun _ => rfl) (fun c1 => ?_) (fun c1 => ?_)
    · refine dw_g rfl ?_
      refine dg_s (pc' := 37) [.ref x0] rfl (fun _ => rfl) rfl ?_
      refine dg_s (pc' := 40) [.int (q5.1 x0 40)] rfl (fun _ => rfl) rfl ?_
      refine dg_L (pc' := 41) [(3, .int (q5.1 x0 40)), (0, .ref x0), (1, .int x1), (2, .int x2)] [] rfl (fun _ => rfl) rfl ?_
      refine dg_s (pc' := 42) [.ref x0] rfl (fun _ => rfl) rfl ?_
      refine dg_s (pc' := 43) [.int x1, .ref x0] rfl (fun _ => rfl) rfl ?_
      refine dg_s (pc' := 44) [.int x2, .int x1, .ref x0] rfl (fun _ => rfl) rfl ?_
      refine dw_l (fun t => Φ t) (pc' := 47) (fun q6 => []) (fun q6 => q6) rfl (fun _ => rfl) (fun q6 => ?_)
      refine dw_g rfl ?_
      refine dg_s (pc' := 48) [.int (q5.1 x0 40)] rfl (fun _ => rfl) rfl ?_
      exact dw_r (some (.inl (some (.int (q5.1 x0 40)), q6))) rfl (fun _ => rfl) (kR _ _)
    · refine dw_g rfl ?_
      refine dg_s (pc' := 33) [.int (-11 : Int32)] rfl (fun _ => rfl) rfl ?_
      refine dg_s (pc' := 40) [.int (-11 : Int32)] rfl (fun _ => rfl) rfl ?_
      refine dg_L (pc' := 41) [(3, .int (-11 : Int32)), (0, .ref x0), (1, .int x1), (2, .int x2)] [] rfl (fun _ => rfl) rfl ?_
      refine dg_s (pc' := 42) [.ref x0] rfl (fun _ => rfl) rfl ?_
      refine dg_s (pc' := 43) [.int x1, .ref x0] rfl (fun _ => rfl) rfl ?_
      refine dg_s (pc' := 44) [.int x2, .int x1, .ref x0] rfl (fun _ => rfl) rfl ?_
      refine dw_l (fun t => Φ t) (pc' := 47) (fun q7 => []) (fun q7 => q7) rfl (fun _ => rfl) (fun q7 => ?_)
      refine dw_g rfl ?_
      refine dg_s (pc' := 48) [.int (-11 : Int32)] rfl (fun _ => rfl) rfl ?_
      exact dw_r (some (.inl (some (.int (-11 : Int32)), q7))) rfl (fun _ => rfl) (kR _ _)
noncomputable def H_X10_tryCure : dc_H := fun As m k => match As with
  | [.ref x0, .int x1, .int x2] => (d_X10_tryCure x0 x1 x2 m).bind (fun q => k (some (.int q.1)) q.2)
  | _ => dc_kz
theorem H_X10_tryCure_ok {u : Nat} : dc_cok u 207 H_X10_tryCure := fun M' hG N As m k P hz hP => by
  obtain rfl : ab_M_X10_tryCure = M' := Option.some.inj hG
  unfold H_X10_tryCure at hP
  split at hP
  · rename_i x0 x1 x2
    exact dc_pv.imp (k_X10_tryCure (Φ := fun (t : Option (Int32 × dc_M)) r m' => P (t.bind (fun q => k (some (.int q.1)) q.2)) → P (k r m')) x0 x1 x2 m (fun _ _ h => h) rfl rfl rfl) (fun r m' h => h hP)
  · exact absurd hP hz
noncomputable def C_X10_would : List (Nat × dc_H) := [(163, H_X10_isEvent), (203, H_X10_isFull), (175, H_X10_layRight), (207, H_X10_tryCure)]
theorem CO_X10_would {u : Nat} : dc_CO u C_X10_would := dc_CO_cons H_X10_isEvent_ok (dc_CO_cons H_X10_isFull_ok (dc_CO_cons H_X10_layRight_ok (dc_CO_cons H_X10_tryCure_ok (dc_CO_nil))))
def S_X10_would : List (Nat × List Nat) := []
noncomputable def d_X10_would (x0 : Nat) (x1 : Int32) (x2 : Int32) (m : dc_M) : Option (Int32 × dc_M) :=
  (if (Int32.toInt (d_X10_isEvent x0 x1 m)) = 0 then some (((-1 : Int32), m)) else (if (Int32.toInt (d_X10_isEvent x0 x2 m)) = 0 then some (((-1 : Int32), m)) else (if ¬ (Int32.toInt x1) = (Int32.toInt x2) then ((d_X10_layRight x0 m).bind (fun q1 => (if ¬ (Int32.toInt q1.1) = 0 then (if (Int32.toInt (d_X10_isFull x0 q1.2)) = 0 then ((d_X10_tryCure x0 x1 x2 q1.2).bind (fun q2 => some ((q2.1, q2.2)))) else some (((-3 : Int32), q1.2))) else some (((-2 : Int32), q1.2))))) else some (((-1 : Int32), m)))))
set_option maxHeartbeats 8000000 in
theorem k_X10_would {u : Nat} {N : Nat} {Φ : (Option (Int32 × dc_M)) → Option Value → dc_M → Prop} (x0 : Nat) (x1 : Int32) (x2 : Int32) (m : dc_M) (kR : ∀ (v : Int32) (m : dc_M), Φ (some ((v, m))) (some (.int v)) m)  {lv : ab_L} (f0 : ab_lk lv 0 = some (.ref x0)) (f1 : ab_lk lv 1 = some (.int x1)) (f2 : ab_lk lv 2 = some (.int x2)) : dc_pv u N ab_M_X10_would 0 lv [] m (Φ (d_X10_would x0 x1 x2 m)) := by
  refine dc_pv.mono (dc_ok (C := C_X10_would) (S := S_X10_would) CO_X10_would 400 0 [(0, .ref x0), (1, .int x1), (2, .int x2)] lv [] m (dc_sub_cons f0 (dc_sub_cons f1 (dc_sub_cons f2 (dc_sub_nil)))) ?_) (Nat.le_succ N)
  unfold d_X10_would
  refine dg_s (pc' := 1) [.ref x0] rfl (fun _ => rfl) rfl ?_
  refine dg_s (pc' := 2) [.int x1, .ref x0] rfl (fun _ => rfl) rfl ?_
  refine dg_s (pc' := 5) [.int (d_X10_isEvent x0 x1 m)] rfl (fun _ => rfl) rfl ?_
  refine dw_if (fun t => Φ t) ((Int32.toInt (d_X10_isEvent x0 x1 m)) = 0) [] 21 8 rfl (fun _ => rfl) (fun c0 => ?_) (fun c0 => ?_)
  · refine dw_g rfl ?_
    refine dg_s (pc' := 22) [.int (-1 : Int32)] rfl (fun _ => rfl) rfl ?_
    exact dw_r (some (.inl (some (.int (-1 : Int32)), m))) rfl (fun _ => rfl) (kR _ _)
  · refine dw_g rfl ?_
    refine dg_s (pc' := 9) [.ref x0] rfl (fun _ => rfl) rfl ?_
    refine dg_s (pc' := 10) [.int x2, .ref x0] rfl (fun _ => rfl) rfl ?_
    refine dg_s (pc' := 13) [.int (d_X10_isEvent x0 x2 m)] rfl (fun _ => rfl) rfl ?_
    refine dw_if (fun t => Φ t) ((Int32.toInt (d_X10_isEvent x0 x2 m)) = 0) [] 21 16 rfl (fun _ => rfl) (fun c1 => ?_) (fun c1 => ?_)
    · refine dw_g rfl ?_
      refine dg_s (pc' := 22) [.int (-1 : Int32)] rfl (fun _ => rfl) rfl ?_
      exact dw_r (some (.inl (some (.int (-1 : Int32)), m))) rfl (fun _ => rfl) (kR _ _)
    · refine dw_g rfl ?_
      refine dg_s (pc' := 17) [.int x1] rfl (fun _ => rfl) rfl ?_
      refine dg_s (pc' := 18) [.int x2, .int x1] rfl (fun _ => rfl) rfl ?_
      refine dw_if (fun t => Φ t) (¬ (Int32.toInt x1) = (Int32.toInt x2)) [] 23 21 rfl (fun _ => rfl) (fun c2 => ?_) (fun c2 => ?_)
      · refine dw_g rfl ?_
        refine dg_s (pc' := 24) [.ref x0] rfl (fun _ => rfl) rfl ?_
        refine dw_b (fun t => Φ t) (pc' := 27) (fun q1 => [.int q1.1]) (fun q1 => q1.2) rfl (fun _ => rfl) (fun q1 => ?_)
        refine dw_g rfl ?_
        refine dw_if (fun t => Φ t) (¬ (Int32.toInt q1.1) = 0) [] 33 30 rfl (fun _ => rfl) (fun c3 => ?_) (fun c3 => ?_)
        · refine dw_g rfl ?_
          refine dg_s (pc' := 34) [.ref x0] rfl (fun _ => rfl) rfl ?_
          refine dg_s (pc' := 37) [.int (d_X10_isFull x0 q1.2)] rfl (fun _ => rfl) rfl ?_
          refine dw_if (fun t => Φ t) ((Int32.toInt (d_X10_isFull x0 q1.2)) = 0) [] 45 40 rfl (fun _ => rfl) (fun c4 => ?_) (fun c4 => ?_)
          · refine dw_g rfl ?_
            refine dg_s (pc' := 46) [.ref x0] rfl (fun _ => rfl) rfl ?_
            refine dg_s (pc' := 47) [.int x1, .ref x0] rfl (fun _ => rfl) rfl ?_
            refine dg_s (pc' := 48) [.int x2, .int x1, .ref x0] rfl (fun _ => rfl) rfl ?_
            refine dw_b (fun t => Φ t) (pc' := 51) (fun q2 => [.int q2.1]) (fun q2 => q2.2) rfl (fun _ => rfl) (fun q2 => ?_)
            refine dw_g rfl ?_
            exact dw_r (some (.inl (some (.int q2.1), q2.2))) rfl (fun _ => rfl) (kR _ _)
          · refine dw_g rfl ?_
            refine dg_s (pc' := 42) [.int (-3 : Int32)] rfl (fun _ => rfl) rfl ?_
            refine dg_s (pc' := 51) [.int (-3 : Int32)] rfl (fun _ => rfl) rfl ?_
            exact dw_r (some (.inl (some (.int (-3 : Int32)), q1.2))) rfl (fun _ => rfl) (kR _ _)
        · refine dw_g rfl ?_
          refine dg_s (pc' := 32) [.int (-2 : Int32)] rfl (fun _ => rfl) rfl ?_
          exact dw_r (some (.inl (some (.int (-2 : Int32)), q1.2))) rfl (fun _ => rfl) (kR _ _)
      · refine dw_g rfl ?_
        refine dg_s (pc' := 22) [.int (-1 : Int32)] rfl (fun _ => rfl) rfl ?_
        exact dw_r (some (.inl (some (.int (-1 : Int32)), m))) rfl (fun _ => rfl) (kR _ _)
noncomputable def H_X10_would : dc_H := fun As m k => match As with
  | [.ref x0, .int x1, .int x2] => (d_X10_would x0 x1 x2 m).bind (fun q => k (some (.int q.1)) q.2)
  | _ => dc_kz
theorem H_X10_would_ok {u : Nat} : dc_cok u 208 H_X10_would := fun M' hG N As m k P hz hP => by
  obtain rfl : ab_M_X10_would = M' := Option.some.inj hG
  unfold H_X10_would at hP
  split at hP
  · rename_i x0 x1 x2
    exact dc_pv.imp (k_X10_would (Φ := fun (t : Option (Int32 × dc_M)) r m' => P (t.bind (fun q => k (some (.int q.1)) q.2)) → P (k r m')) x0 x1 x2 m (fun _ _ h => h) rfl rfl rfl) (fun r m' h => h hP)
  · exact absurd hP hz
noncomputable def C_X9_wouldCure : List (Nat × dc_H) := [(141, H_X9_tryCure)]
theorem CO_X9_wouldCure {u : Nat} : dc_CO u C_X9_wouldCure := dc_CO_cons H_X9_tryCure_ok (dc_CO_nil)
def S_X9_wouldCure : List (Nat × List Nat) := []
noncomputable def d_X9_wouldCure (x0 : Nat) (x1 : Int32) (x2 : Int32) (m : dc_M) : Option (Int32 × dc_M) :=
  ((d_X9_tryCure x0 x1 x2 m).bind (fun q1 => (if (Int32.toInt (q1.1 (x0 + 62) 3)) = 0 then some (((0 : Int32), q1)) else (if ¬ (Int32.toInt (q1.1 (x0 + 70) 1)) = 0 then some (((0 : Int32), q1)) else (if ¬ (Int32.toInt (q1.1 (x0 + 70) 4)) = 0 then some (((0 : Int32), q1)) else some (((1 : Int32), q1)))))))
set_option maxHeartbeats 8000000 in
theorem k_X9_wouldCure {u : Nat} {N : Nat} {Φ : (Option (Int32 × dc_M)) → Option Value → dc_M → Prop} (x0 : Nat) (x1 : Int32) (x2 : Int32) (m : dc_M) (kR : ∀ (v : Int32) (m : dc_M), Φ (some ((v, m))) (some (.int v)) m)  {lv : ab_L} (f0 : ab_lk lv 0 = some (.ref x0)) (f1 : ab_lk lv 1 = some (.int x1)) (f2 : ab_lk lv 2 = some (.int x2)) : dc_pv u N ab_M_X9_wouldCure 0 lv [] m (Φ (d_X9_wouldCure x0 x1 x2 m)) := by
  refine dc_pv.mono (dc_ok (C := C_X9_wouldCure) (S := S_X9_wouldCure) CO_X9_wouldCure 400 0 [(0, .ref x0), (1, .int x1), (2, .int x2)] lv [] m (dc_sub_cons f0 (dc_sub_cons f1 (dc_sub_cons f2 (dc_sub_nil)))) ?_) (Nat.le_succ N)
  unfold d_X9_wouldCure
  refine dg_s (pc' := 1) [.ref x0] rfl (fun _ => rfl) rfl ?_
  refine dg_s (pc' := 2) [.int x1, .ref x0] rfl (fun _ => rfl) rfl ?_
  refine dg_s (pc' := 3) [.int x2, .int x1, .ref x0] rfl (fun _ => rfl) rfl ?_
  refine dw_b (fun t => Φ t) (pc' := 6) (fun q1 => []) (fun q1 => q1) rfl (fun _ => rfl) (fun q1 => ?_)
  refine dw_g rfl ?_
  refine dg_s (pc' := 7) [.ref x0] rfl (fun _ => rfl) rfl ?_
  refine dg_s (pc' := 10) [.ref (x0 + 62)] rfl (fun _ => rfl) rfl ?_
  refine dg_s (pc' := 13) [.int (q1.1 (x0 + 62) 3)] rfl (fun _ => rfl) rfl ?_
  refine dw_if (fun t => Φ t) ((Int32.toInt (q1.1 (x0 + 62) 3)) = 0) [] 40 16 rfl (fun _ => rfl) (fun c0 => ?_) (fun c0 => ?_)
  · refine dw_g rfl ?_
    refine dg_s (pc' := 41) [.int (0 : Int32)] rfl (fun _ => rfl) rfl ?_
    exact dw_r (some (.inl (some (.int (0 : Int32)), q1))) rfl (fun _ => rfl) (kR _ _)
  · refine dw_g rfl ?_
    refine dg_s (pc' := 17) [.ref x0] rfl (fun _ => rfl) rfl ?_
    refine dg_s (pc' := 20) [.ref (x0 + 70)] rfl (fun _ => rfl) rfl ?_
    refine dg_s (pc' := 23) [.int (q1.1 (x0 + 70) 1)] rfl (fun _ => rfl) rfl ?_
    refine dw_if (fun t => Φ t) (¬ (Int32.toInt (q1.1 (x0 + 70) 1)) = 0) [] 40 26 rfl (fun _ => rfl) (fun c1 => ?_) (fun c1 => ?_)
    · refine dw_g rfl ?_
      refine dg_s (pc' := 41) [.int (0 : Int32)] rfl (fun _ => rfl) rfl ?_
      exact dw_r (some (.inl (some (.int (0 : Int32)), q1))) rfl (fun _ => rfl) (kR _ _)
    · refine dw_g rfl ?_
      refine dg_s (pc' := 27) [.ref x0] rfl (fun _ => rfl) rfl ?_
      refine dg_s (pc' := 30) [.ref (x0 + 70)] rfl (fun _ => rfl) rfl ?_
      refine dg_s (pc' := 33) [.int (q1.1 (x0 + 70) 4)] rfl (fun _ => rfl) rfl ?_
      refine dw_if (fun t => Φ t) (¬ (Int32.toInt (q1.1 (x0 + 70) 4)) = 0) [] 40 36 rfl (fun _ => rfl) (fun c2 => ?_) (fun c2 => ?_)
      · refine dw_g rfl ?_
        refine dg_s (pc' := 41) [.int (0 : Int32)] rfl (fun _ => rfl) rfl ?_
        exact dw_r (some (.inl (some (.int (0 : Int32)), q1))) rfl (fun _ => rfl) (kR _ _)
      · refine dw_g rfl ?_
        refine dg_s (pc' := 37) [.int (1 : Int32)] rfl (fun _ => rfl) rfl ?_
        refine dg_s (pc' := 41) [.int (1 : Int32)] rfl (fun _ => rfl) rfl ?_
        exact dw_r (some (.inl (some (.int (1 : Int32)), q1))) rfl (fun _ => rfl) (kR _ _)
noncomputable def H_X9_wouldCure : dc_H := fun As m k => match As with
  | [.ref x0, .int x1, .int x2] => (d_X9_wouldCure x0 x1 x2 m).bind (fun q => k (some (.int q.1)) q.2)
  | _ => dc_kz
theorem H_X9_wouldCure_ok {u : Nat} : dc_cok u 142 H_X9_wouldCure := fun M' hG N As m k P hz hP => by
  obtain rfl : ab_M_X9_wouldCure = M' := Option.some.inj hG
  unfold H_X9_wouldCure at hP
  split at hP
  · rename_i x0 x1 x2
    exact dc_pv.imp (k_X9_wouldCure (Φ := fun (t : Option (Int32 × dc_M)) r m' => P (t.bind (fun q => k (some (.int q.1)) q.2)) → P (k r m')) x0 x1 x2 m (fun _ _ h => h) rfl rfl rfl) (fun r m' h => h hP)
  · exact absurd hP hz
noncomputable def C_X9_searchCures : List (Nat × dc_H) := [(142, H_X9_wouldCure)]
theorem CO_X9_searchCures {u : Nat} : dc_CO u C_X9_searchCures := dc_CO_cons H_X9_wouldCure_ok (dc_CO_nil)
def S_X9_searchCures : List (Nat × List Nat) := [(10, [0, 1, 2, 3]), (24, [0, 1, 2, 3, 4]), (70, [0, 1, 2, 3, 4])]
noncomputable def d_X9_searchCures_b70 (x0 : Nat) (x1 : Int32) (x2 : Int32) (x3 : Int32) (x4 : Int32) (m : dc_M) : Option ((Int32 × Int32 × dc_M) ⊕ ((Int32 × Int32 × dc_M) ⊕ dc_M)) :=
  (if ¬ (Int32.toInt x1) = 0 then some (Sum.inl ((x2 + (1 : Int32)), (x4 + (1 : Int32)), m)) else some (Sum.inr (Sum.inr (m))))
set_option maxHeartbeats 8000000 in
theorem k_X9_searchCures_b70 {u : Nat} {N : Nat} {Φ : (Option ((Int32 × Int32 × dc_M) ⊕ ((Int32 × Int32 × dc_M) ⊕ dc_M))) → Option Value → dc_M → Prop} (x0 : Nat) (x1 : Int32) (x2 : Int32) (x3 : Int32) (x4 : Int32) (m : dc_M) (kR : ∀  (m : dc_M), Φ (some (Sum.inr (Sum.inr (m)))) (none) m) (k24 : ∀ (x2 : Int32) (x4 : Int32) (m : dc_M) (lv : ab_L), ab_lk lv 0 = some (.ref x0) → ab_lk lv 1 = some (.int x1) → ab_lk lv 2 = some (.int x2) → ab_lk lv 3 = some (.int x3) → ab_lk lv 4 = some (.int x4) →  dc_pv u N ab_M_X9_searchCures 24 lv [] m (Φ (some (Sum.inl (x2, x4, m))))) (k10 : ∀ (x2 : Int32) (x3 : Int32) (m : dc_M) (lv : ab_L), ab_lk lv 0 = some (.ref x0) → ab_lk lv 1 = some (.int x1) → ab_lk lv 2 = some (.int x2) → ab_lk lv 3 = some (.int x3) →  dc_pv u N ab_M_X9_searchCures 10 lv [] m (Φ (some (Sum.inr (Sum.inl (x2, x3, m)))))) {lv : ab_L} (f0 : ab_lk lv 0 = some (.ref x0)) (f1 : ab_lk lv 1 = some (.int x1)) (f2 : ab_lk lv 2 = some (.int x2)) (f3 : ab_lk lv 3 = some (.int x3)) (f4 : ab_lk lv 4 = some (.int x4)) : dc_pv u N ab_M_X9_searchCures 70 lv [] m (Φ (d_X9_searchCures_b70 x0 x1 x2 x3 x4 m)) := by
  refine dc_pv.mono (dc_ok (C := C_X9_searchCures) (S := S_X9_searchCures) CO_X9_searchCures 400 70 [(0, .ref x0), (1, .int x1), (2, .int x2), (3, .int x3), (4, .int x4)] lv [] m (dc_sub_cons f0 (dc_sub_cons f1 (dc_sub_cons f2 (dc_sub_cons f3 (dc_sub_cons f4 (dc_sub_nil)))))) ?_) (Nat.le_succ N)
  unfold d_X9_searchCures_b70
  refine dg_L (pc' := 73) [(2, .int (x2 + (1 : Int32))), (0, .ref x0), (1, .int x1), (3, .int x3), (4, .int x4)] [] rfl (fun _ => rfl) rfl ?_
  refine dg_s (pc' := 74) [.int x1] rfl (fun _ => rfl) rfl ?_
  refine dw_if (fun t => Φ t) (¬ (Int32.toInt x1) = 0) [] 78 77 rfl (fun _ => rfl) (fun c0 => ?_) (fun c0 => ?_)
  · refine dw_g rfl ?_
    refine dg_L (pc' := 81) [(4, .int (x4 + (1 : Int32))), (2, .int (x2 + (1 : Int32))), (0, .ref x0), (1, .int x1), (3, .int x3)] [] rfl (fun _ => rfl) rfl ?_
    refine dw_s (pc' := 24) [] rfl (fun _ => rfl) ?_
    exact dw_j rfl (fun lv1 hv => k24 (x2 + (1 : Int32)) (x4 + (1 : Int32)) m lv1 (hv.1 _ rfl) (hv.2.1 _ rfl) (hv.2.2.1 _ rfl) (hv.2.2.2.1 _ rfl) (hv.2.2.2.2.1 _ rfl))
  · refine dw_g rfl ?_
    exact dw_r (some (.inl (none, m))) rfl (fun _ => rfl) (kR _)
noncomputable def d_X9_searchCures_l24b (x0 : Nat) (x1 : Int32) (x3 : Int32) (x2 : Int32) (x4 : Int32) (m : dc_M) : Option ((Int32 × Int32 × dc_M) ⊕ ((Int32 × Int32 × dc_M) ⊕ dc_M)) :=
  (if (Int32.toInt (m.1 (m.2.2.1 x0 7) 1)) ≤ (Int32.toInt x4) then some (Sum.inr (Sum.inl (x2, (x3 + (1 : Int32)), m))) else (if (Int32.toInt x3) = (Int32.toInt x4) then some (Sum.inl (x2, (x4 + (1 : Int32)), m)) else ((d_X9_wouldCure x0 x3 x4 m).bind (fun q1 => (if ¬ (Int32.toInt q1.1) = 0 then (if ¬ (Int32.toInt x2) = 0 then (d_X9_searchCures_b70 x0 x1 x2 x3 x4 q1.2) else (d_X9_searchCures_b70 x0 x1 x2 x3 x4 (dc_wi q1.2 x0 15 (((100 : Int32) * x3) + x4)))) else some (Sum.inl (x2, (x4 + (1 : Int32)), q1.2)))))))
noncomputable def d_X9_searchCures_l24s (x0 : Nat) (x1 : Int32) (x3 : Int32) : (Int32 × Int32 × dc_M) → Option ((Int32 × Int32 × dc_M) ⊕ ((Int32 × Int32 × dc_M) ⊕ dc_M)) := fun s => d_X9_searchCures_l24b x0 x1 x3 s.1 s.2.1 s.2.2
noncomputable def d_X9_searchCures_l24 (x0 : Nat) (x1 : Int32) (x3 : Int32) (x2 : Int32) (x4 : Int32) (m : dc_M) : Option ((Int32 × Int32 × dc_M) ⊕ dc_M) := dc_lp (d_X9_searchCures_l24s x0 x1 x3) (x2, x4, m)
set_option maxHeartbeats 8000000 in
theorem k_X9_searchCures_l24 {u : Nat} {Φ : (Option ((Int32 × Int32 × dc_M) ⊕ dc_M)) → Option Value → dc_M → Prop} (x0 : Nat) (x1 : Int32) (x3 : Int32) (kR : ∀  (m : dc_M), Φ (some (Sum.inr (m))) (none) m) : ∀ (N : Nat), (∀ (x2 : Int32) (x3 : Int32) (m : dc_M) (lv : ab_L), ab_lk lv 0 = some (.ref x0) → ab_lk lv 1 = some (.int x1) → ab_lk lv 2 = some (.int x2) → ab_lk lv 3 = some (.int x3) →  dc_pv u N ab_M_X9_searchCures 10 lv [] m (Φ (some (Sum.inl (x2, x3, m))))) → ∀ (x2 : Int32) (x4 : Int32) (m : dc_M) (lv : ab_L), ab_lk lv 0 = some (.ref x0) → ab_lk lv 1 = some (.int x1) → ab_lk lv 2 = some (.int x2) → ab_lk lv 3 = some (.int x3) → ab_lk lv 4 = some (.int x4) → dc_pv u N ab_M_X9_searchCures 24 lv [] m (Φ (d_X9_searchCures_l24 x0 x1 x3 x2 x4 m)) := by
  intro N
  induction N with
  | zero => intros; exact dc_pv_zero
  | succ N ih =>
    intro k10 x2 x4 m lv f0 f1 f2 f3 f4
    have k10 := fun a0 a1 a2 a3 a4 a5 a6 a7 => (k10 a0 a1 a2 a3 a4 a5 a6 a7).mono (Nat.le_succ N)
    have ih := ih k10
    refine dc_ok (C := C_X9_searchCures) (S := S_X9_searchCures) CO_X9_searchCures 400 24 [(0, .ref x0), (1, .int x1), (2, .int x2), (3, .int x3), (4, .int x4)] lv [] m (dc_sub_cons f0 (dc_sub_cons f1 (dc_sub_cons f2 (dc_sub_cons f3 (dc_sub_cons f4 (dc_sub_nil)))))) ?_
    unfold d_X9_searchCures_l24
    rw [dc_lp_eq]
    show (fun t x => dc_lf u N ab_M_X9_searchCures (Φ (Option.bind t (dc_bk (d_X9_searchCures_l24s x0 x1 x3)))) x) (d_X9_searchCures_l24b x0 x1 x3 x2 x4 m) _
    dsimp only
    unfold d_X9_searchCures_l24b
    refine dg_s (pc' := 26) [.int x4] rfl (fun _ => rfl) rfl ?_
    refine dg_s (pc' := 27) [.ref x0, .int x4] rfl (fun _ => rfl) rfl ?_
    refine dg_s (pc' := 30) [.ref (m.2.2.1 x0 7), .int x4] rfl (fun _ => rfl) rfl ?_
    refine dg_s (pc' := 33) [.int (m.1 (m.2.2.1 x0 7) 1), .int x4] rfl (fun _ => rfl) rfl ?_
    refine dw_if (fun t => Φ (Option.bind t (dc_bk (d_X9_searchCures_l24s x0 x1 x3)))) ((Int32.toInt (m.1 (m.2.2.1 x0 7) 1)) ≤ (Int32.toInt x4)) [] 84 36 rfl (fun _ => rfl) (fun c0 => ?_) (fun c0 => ?_)
    · refine dw_g rfl ?_
      refine dg_L (pc' := 87) [(3, .int (x3 + (1 : Int32))), (0, .ref x0), (1, .int x1), (2, .int x2), (4, .int x4)] [] rfl (fun _ => rfl) rfl ?_
      refine dw_s (pc' := 10) [] rfl (fun _ => rfl) ?_
      exact dw_j rfl (fun lv1 hv => k10 x2 (x3 + (1 : Int32)) m lv1 (hv.1 _ rfl) (hv.2.1 _ rfl) (hv.2.2.1 _ rfl) (hv.2.2.2.1 _ rfl))
    · refine dw_g rfl ?_
      refine dg_s (pc' := 37) [.int x3] rfl (fun _ => rfl) rfl ?_
      refine dg_s (pc' := 39) [.int x4, .int x3] rfl (fun _ => rfl) rfl ?_
      refine dw_if (fun t => Φ (Option.bind t (dc_bk (d_X9_searchCures_l24s x0 x1 x3)))) ((Int32.toInt x3) = (Int32.toInt x4)) [] 78 42 rfl (fun _ => rfl) (fun c1 => ?_) (fun c1 => ?_)
      · refine dw_g rfl ?_
        refine dg_L (pc' := 81) [(4, .int (x4 + (1 : Int32))), (0, .ref x0), (1, .int x1), (2, .int x2), (3, .int x3)] [] rfl (fun _ => rfl) rfl ?_
        refine dw_s (pc' := 24) [] rfl (fun _ => rfl) ?_
        exact dw_j rfl (fun lv1 hv => ih x2 (x4 + (1 : Int32)) m lv1 (hv.1 _ rfl) (hv.2.1 _ rfl) (hv.2.2.1 _ rfl) (hv.2.2.2.1 _ rfl) (hv.2.2.2.2.1 _ rfl))
      · refine dw_g rfl ?_
        refine dg_s (pc' := 43) [.ref x0] rfl (fun _ => rfl) rfl ?_
        refine dg_s (pc' := 44) [.int x3, .ref x0] rfl (fun _ => rfl) rfl ?_
        refine dg_s (pc' := 46) [.int x4, .int x3, .ref x0] rfl (fun _ => rfl) rfl ?_
        refine dw_b (fun t => Φ (Option.bind t (dc_bk (d_X9_searchCures_l24s x0 x1 x3)))) (pc' := 49) (fun q1 => [.int q1.1]) (fun q1 => q1.2) rfl (fun _ => rfl) (fun q1 => ?_)
        refine dw_g rfl ?_
        refine dw_if (fun t => Φ (Option.bind t (dc_bk (d_X9_searchCures_l24s x0 x1 x3)))) (¬ (Int32.toInt q1.1) = 0) [] 55 52 rfl (fun _ => rfl) (fun c2 => ?_) (fun c2 => ?_)
        · refine dw_g rfl ?_
          refine dg_s (pc' := 56) [.int x2] rfl (fun _ => rfl) rfl ?_
          refine dw_if (fun t => Φ (Option.bind t (dc_bk (d_X9_searchCures_l24s x0 x1 x3)))) (¬ (Int32.toInt x2) = 0) [] 70 59 rfl (fun _ => rfl) (fun c3 => ?_) (fun c3 => ?_)
          · exact dw_j rfl (fun lv1 hv => k_X9_searchCures_b70 (Φ := (fun t => Φ (Option.bind t (dc_bk (d_X9_searchCures_l24s x0 x1 x3))))) x0 x1 x2 x3 x4 q1.2 (fun _b => kR _b) ih k10 (hv.1 _ rfl) (hv.2.1 _ rfl) (hv.2.2.1 _ rfl) (hv.2.2.2.1 _ rfl) (hv.2.2.2.2.1 _ rfl))
          · refine dw_g rfl ?_
            refine dg_s (pc' := 60) [.ref x0] rfl (fun _ => rfl) rfl ?_
            refine dg_s (pc' := 62) [.int (100 : Int32), .ref x0] rfl (fun _ => rfl) rfl ?_
            refine dg_s (pc' := 63) [.int x3, .int (100 : Int32), .ref x0] rfl (fun _ => rfl) rfl ?_
            refine dg_s (pc' := 64) [.int ((100 : Int32) * x3), .ref x0] rfl (fun _ => rfl) rfl ?_
            refine dg_s (pc' := 66) [.int x4, .int ((100 : Int32) * x3), .ref x0] rfl (fun _ => rfl) rfl ?_
            refine dg_s (pc' := 67) [.int (((100 : Int32) * x3) + x4), .ref x0] rfl (fun _ => rfl) rfl ?_
            refine dw_m (pc' := 70) (dc_wi q1.2 x0 15 (((100 : Int32) * x3) + x4)) [] rfl (fun _ => rfl) ?_
            exact dw_j rfl (fun lv1 hv => k_X9_searchCures_b70 (Φ := (fun t => Φ (Option.bind t (dc_bk (d_X9_searchCures_l24s x0 x1 x3))))) x0 x1 x2 x3 x4 (dc_wi q1.2 x0 15 (((100 : Int32) * x3) + x4)) (fun _b => kR _b) ih k10 (hv.1 _ rfl) (hv.2.1 _ rfl) (hv.2.2.1 _ rfl) (hv.2.2.2.1 _ rfl) (hv.2.2.2.2.1 _ rfl))
        · refine dw_g rfl ?_
          refine dg_s (pc' := 78) [] rfl (fun _ => rfl) rfl ?_
          refine dg_L (pc' := 81) [(4, .int (x4 + (1 : Int32))), (0, .ref x0), (1, .int x1), (2, .int x2), (3, .int x3)] [] rfl (fun _ => rfl) rfl ?_
          refine dw_s (pc' := 24) [] rfl (fun _ => rfl) ?_
          exact dw_j rfl (fun lv1 hv => ih x2 (x4 + (1 : Int32)) q1.2 lv1 (hv.1 _ rfl) (hv.2.1 _ rfl) (hv.2.2.1 _ rfl) (hv.2.2.2.1 _ rfl) (hv.2.2.2.2.1 _ rfl))
noncomputable def d_X9_searchCures_l10b (x0 : Nat) (x1 : Int32) (x2 : Int32) (x3 : Int32) (m : dc_M) : Option ((Int32 × Int32 × dc_M) ⊕ dc_M) :=
  (if (Int32.toInt (m.1 (m.2.2.1 x0 7) 1)) ≤ (Int32.toInt x3) then some (Sum.inr ((dc_wi m x0 16 x2))) else (d_X9_searchCures_l24 x0 x1 x3 x2 (0 : Int32) m))
noncomputable def d_X9_searchCures_l10s (x0 : Nat) (x1 : Int32) : (Int32 × Int32 × dc_M) → Option ((Int32 × Int32 × dc_M) ⊕ dc_M) := fun s => d_X9_searchCures_l10b x0 x1 s.1 s.2.1 s.2.2
noncomputable def d_X9_searchCures_l10 (x0 : Nat) (x1 : Int32) (x2 : Int32) (x3 : Int32) (m : dc_M) : Option dc_M := dc_lp (d_X9_searchCures_l10s x0 x1) (x2, x3, m)
set_option maxHeartbeats 8000000 in
theorem k_X9_searchCures_l10 {u : Nat} {Φ : (Option dc_M) → Option Value → dc_M → Prop} (x0 : Nat) (x1 : Int32) (kR : ∀  (m : dc_M), Φ (some (m)) (none) m) : ∀ (N : Nat), ∀ (x2 : Int32) (x3 : Int32) (m : dc_M) (lv : ab_L), ab_lk lv 0 = some (.ref x0) → ab_lk lv 1 = some (.int x1) → ab_lk lv 2 = some (.int x2) → ab_lk lv 3 = some (.int x3) → dc_pv u N ab_M_X9_searchCures 10 lv [] m (Φ (d_X9_searchCures_l10 x0 x1 x2 x3 m)) := by
  intro N
  induction N with
  | zero => intros; exact dc_pv_zero
  | succ N ih =>
    intro x2 x3 m lv f0 f1 f2 f3
    refine dc_ok (C := C_X9_searchCures) (S := S_X9_searchCures) CO_X9_searchCures 400 10 [(0, .ref x0), (1, .int x1), (2, .int x2), (3, .int x3)] lv [] m (dc_sub_cons f0 (dc_sub_cons f1 (dc_sub_cons f2 (dc_sub_cons f3 (dc_sub_nil))))) ?_
    unfold d_X9_searchCures_l10
    rw [dc_lp_eq]
    show (fun t x => dc_lf u N ab_M_X9_searchCures (Φ (Option.bind t (dc_bk (d_X9_searchCures_l10s x0 x1)))) x) (d_X9_searchCures_l10b x0 x1 x2 x3 m) _
    dsimp only
    unfold d_X9_searchCures_l10b
    refine dg_s (pc' := 11) [.int x3] rfl (fun _ => rfl) rfl ?_
    refine dg_s (pc' := 12) [.ref x0, .int x3] rfl (fun _ => rfl) rfl ?_
    refine dg_s (pc' := 15) [.ref (m.2.2.1 x0 7), .int x3] rfl (fun _ => rfl) rfl ?_
    refine dg_s (pc' := 18) [.int (m.1 (m.2.2.1 x0 7) 1), .int x3] rfl (fun _ => rfl) rfl ?_
    refine dw_if (fun t => Φ (Option.bind t (dc_bk (d_X9_searchCures_l10s x0 x1)))) ((Int32.toInt (m.1 (m.2.2.1 x0 7) 1)) ≤ (Int32.toInt x3)) [] 90 21 rfl (fun _ => rfl) (fun c0 => ?_) (fun c0 => ?_)
    · refine dw_g rfl ?_
      refine dg_s (pc' := 91) [.ref x0] rfl (fun _ => rfl) rfl ?_
      refine dg_s (pc' := 92) [.int x2, .ref x0] rfl (fun _ => rfl) rfl ?_
      refine dg_m (pc' := 95) (dc_wi m x0 16 x2) [] rfl (fun _ => rfl) rfl ?_
      exact dw_r (some (.inl (none, (dc_wi m x0 16 x2)))) rfl (fun _ => rfl) (kR _)
    · refine dw_g rfl ?_
      refine dg_s (pc' := 22) [.int (0 : Int32)] rfl (fun _ => rfl) rfl ?_
      refine dw_L (pc' := 24) [(4, .int (0 : Int32)), (0, .ref x0), (1, .int x1), (2, .int x2), (3, .int x3)] [] rfl (fun _ => rfl) ?_
      exact dw_j rfl (fun lv1 hv => k_X9_searchCures_l24 (Φ := (fun t => Φ (Option.bind t (dc_bk (d_X9_searchCures_l10s x0 x1))))) x0 x1 x3 (fun _b => kR _b) N ih x2 (0 : Int32) m lv1 (hv.1 _ rfl) (hv.2.1 _ rfl) (hv.2.2.1 _ rfl) (hv.2.2.2.1 _ rfl) (hv.2.2.2.2.1 _ rfl))
noncomputable def d_X9_searchCures (x0 : Nat) (x1 : Int32) (m : dc_M) : Option dc_M :=
  (d_X9_searchCures_l10 x0 x1 (0 : Int32) (0 : Int32) (dc_wi m x0 15 (-4 : Int32)))
set_option maxHeartbeats 8000000 in
theorem k_X9_searchCures {u : Nat} {N : Nat} {Φ : (Option dc_M) → Option Value → dc_M → Prop} (x0 : Nat) (x1 : Int32) (m : dc_M) (kR : ∀  (m : dc_M), Φ (some (m)) (none) m)  {lv : ab_L} (f0 : ab_lk lv 0 = some (.ref x0)) (f1 : ab_lk lv 1 = some (.int x1)) : dc_pv u N ab_M_X9_searchCures 0 lv [] m (Φ (d_X9_searchCures x0 x1 m)) := by
  refine dc_pv.mono (dc_ok (C := C_X9_searchCures) (S := S_X9_searchCures) CO_X9_searchCures 400 0 [(0, .ref x0), (1, .int x1)] lv [] m (dc_sub_cons f0 (dc_sub_cons f1 (dc_sub_nil))) ?_) (Nat.le_succ N)
  unfold d_X9_searchCures
  refine dg_s (pc' := 1) [.ref x0] rfl (fun _ => rfl) rfl ?_
  refine dg_s (pc' := 3) [.int (-4 : Int32), .ref x0] rfl (fun _ => rfl) rfl ?_
  refine dg_m (pc' := 6) (dc_wi m x0 15 (-4 : Int32)) [] rfl (fun _ => rfl) rfl ?_
  refine dg_s (pc' := 7) [.int (0 : Int32)] rfl (fun _ => rfl) rfl ?_
  refine dg_L (pc' := 8) [(2, .int (0 : Int32)), (0, .ref x0), (1, .int x1)] [] rfl (fun _ => rfl) rfl ?_
  refine dg_s (pc' := 9) [.int (0 : Int32)] rfl (fun _ => rfl) rfl ?_
  refine dw_L (pc' := 10) [(3, .int (0 : Int32)), (2, .int (0 : Int32)), (0, .ref x0), (1, .int x1)] [] rfl (fun _ => rfl) ?_
  exact dw_j rfl (fun lv1 hv => k_X9_searchCures_l10 (Φ := (fun t => Φ t)) x0 x1 (fun _b => kR _b) N  (0 : Int32) (0 : Int32) (dc_wi m x0 15 (-4 : Int32)) lv1 (hv.1 _ rfl) (hv.2.1 _ rfl) (hv.2.2.1 _ rfl) (hv.2.2.2.1 _ rfl))
noncomputable def H_X9_searchCures : dc_H := fun As m k => match As with
  | [.ref x0, .int x1] => (d_X9_searchCures x0 x1 m).bind (fun q => k (none) q)
  | _ => dc_kz
theorem H_X9_searchCures_ok {u : Nat} : dc_cok u 143 H_X9_searchCures := fun M' hG N As m k P hz hP => by
  obtain rfl : ab_M_X9_searchCures = M' := Option.some.inj hG
  unfold H_X9_searchCures at hP
  split at hP
  · rename_i x0 x1
    exact dc_pv.imp (k_X9_searchCures (Φ := fun (t : Option dc_M) r m' => P (t.bind (fun q => k (none) q)) → P (k r m')) x0 x1 m (fun _ h => h) rfl rfl) (fun r m' h => h hP)
  · exact absurd hP hz
noncomputable def C_X9_cures : List (Nat × dc_H) := [(41, H_X3_hasRoomForCure), (135, H_X9_isRight), (143, H_X9_searchCures)]
theorem CO_X9_cures {u : Nat} : dc_CO u C_X9_cures := dc_CO_cons H_X3_hasRoomForCure_ok (dc_CO_cons H_X9_isRight_ok (dc_CO_cons H_X9_searchCures_ok (dc_CO_nil)))
def S_X9_cures : List (Nat × List Nat) := [(69, [0, 1]), (85, [0, 1]), (88, [0, 1])]
noncomputable def d_X9_cures_b88 (x0 : Nat) (x1 : Int32) (m : dc_M) : Option (Int32 × dc_M) :=
  (if ¬ (Int32.toInt x1) = 0 then some (((m.1 x0 16), m)) else some (((m.1 x0 15), m)))
set_option maxHeartbeats 8000000 in
theorem k_X9_cures_b88 {u : Nat} {N : Nat} {Φ : (Option (Int32 × dc_M)) → Option Value → dc_M → Prop} (x0 : Nat) (x1 : Int32) (m : dc_M) (kR : ∀ (v : Int32) (m : dc_M), Φ (some ((v, m))) (some (.int v)) m)  {lv : ab_L} (f0 : ab_lk lv 0 = some (.ref x0)) (f1 : ab_lk lv 1 = some (.int x1)) : dc_pv u N ab_M_X9_cures 88 lv [] m (Φ (d_X9_cures_b88 x0 x1 m)) := by
  refine dc_pv.mono (dc_ok (C := C_X9_cures) (S := S_X9_cures) CO_X9_cures 400 88 [(0, .ref x0), (1, .int x1)] lv [] m (dc_sub_cons f0 (dc_sub_cons f1 (dc_sub_nil))) ?_) (Nat.le_succ N)
  unfold d_X9_cures_b88
  refine dg_s (pc' := 89) [.int x1] rfl (fun _ => rfl) rfl ?_
  refine dw_if (fun t => Φ t) (¬ (Int32.toInt x1) = 0) [] 99 92 rfl (fun _ => rfl) (fun c0 => ?_) (fun c0 => ?_)
  · refine dw_g rfl ?_
    refine dg_s (pc' := 100) [.ref x0] rfl (fun _ => rfl) rfl ?_
    refine dg_s (pc' := 103) [.int (m.1 x0 16)] rfl (fun _ => rfl) rfl ?_
    exact dw_r (some (.inl (some (.int (m.1 x0 16)), m))) rfl (fun _ => rfl) (kR _ _)
  · refine dw_g rfl ?_
    refine dg_s (pc' := 93) [.ref x0] rfl (fun _ => rfl) rfl ?_
    refine dg_s (pc' := 96) [.int (m.1 x0 15)] rfl (fun _ => rfl) rfl ?_
    refine dg_s (pc' := 103) [.int (m.1 x0 15)] rfl (fun _ => rfl) rfl ?_
    exact dw_r (some (.inl (some (.int (m.1 x0 15)), m))) rfl (fun _ => rfl) (kR _ _)
noncomputable def d_X9_cures_b85 (x0 : Nat) (x1 : Int32) (s0 : Int32) (s1 : Nat) (m : dc_M) : Option (Int32 × dc_M) :=
  ((d_X9_searchCures s1 s0 m).bind (fun q1 => (d_X9_cures_b88 x0 x1 q1)))
set_option maxHeartbeats 8000000 in
theorem k_X9_cures_b85 {u : Nat} {N : Nat} {Φ : (Option (Int32 × dc_M)) → Option Value → dc_M → Prop} (x0 : Nat) (x1 : Int32) (s0 : Int32) (s1 : Nat) (m : dc_M) (kR : ∀ (v : Int32) (m : dc_M), Φ (some ((v, m))) (some (.int v)) m)  {lv : ab_L} (f0 : ab_lk lv 0 = some (.ref x0)) (f1 : ab_lk lv 1 = some (.int x1)) : dc_pv u N ab_M_X9_cures 85 lv [.int s0, .ref s1] m (Φ (d_X9_cures_b85 x0 x1 s0 s1 m)) := by
  refine dc_pv.mono (dc_ok (C := C_X9_cures) (S := S_X9_cures) CO_X9_cures 400 85 [(0, .ref x0), (1, .int x1)] lv [.int s0, .ref s1] m (dc_sub_cons f0 (dc_sub_cons f1 (dc_sub_nil))) ?_) (Nat.le_succ N)
  unfold d_X9_cures_b85
  refine dw_b (fun t => Φ t) (pc' := 88) (fun q1 => []) (fun q1 => q1) rfl (fun _ => rfl) (fun q1 => ?_)
  exact dw_j rfl (fun lv1 hv => k_X9_cures_b88 (Φ := (fun t => Φ t)) x0 x1 q1 (fun _a _b => kR _a _b)  (hv.1 _ rfl) (hv.2.1 _ rfl))
noncomputable def d_X9_cures_b69 (x0 : Nat) (x1 : Int32) (s0 : Int32) (m : dc_M) : Option (Int32 × dc_M) :=
  (if ¬ (Int32.toInt s0) = 0 then (d_X9_cures_b88 x0 x1 m) else (if ¬ (Int32.toInt x1) = 1 then (d_X9_cures_b85 x0 x1 (0 : Int32) x0 m) else (d_X9_cures_b85 x0 x1 (1 : Int32) x0 m)))
set_option maxHeartbeats 8000000 in
theorem k_X9_cures_b69 {u : Nat} {N : Nat} {Φ : (Option (Int32 × dc_M)) → Option Value → dc_M → Prop} (x0 : Nat) (x1 : Int32) (s0 : Int32) (m : dc_M) (kR : ∀ (v : Int32) (m : dc_M), Φ (some ((v, m))) (some (.int v)) m)  {lv : ab_L} (f0 : ab_lk lv 0 = some (.ref x0)) (f1 : ab_lk lv 1 = some (.int x1)) : dc_pv u N ab_M_X9_cures 69 lv [.int s0] m (Φ (d_X9_cures_b69 x0 x1 s0 m)) := by
  refine dc_pv.mono (dc_ok (C := C_X9_cures) (S := S_X9_cures) CO_X9_cures 400 69 [(0, .ref x0), (1, .int x1)] lv [.int s0] m (dc_sub_cons f0 (dc_sub_cons f1 (dc_sub_nil))) ?_) (Nat.le_succ N)
  unfold d_X9_cures_b69
  refine dg_L (pc' := 70) [(2, .int s0), (0, .ref x0), (1, .int x1)] [] rfl (fun _ => rfl) rfl ?_
  refine dg_s (pc' := 71) [.int s0] rfl (fun _ => rfl) rfl ?_
  refine dw_if (fun t => Φ t) (¬ (Int32.toInt s0) = 0) [] 88 74 rfl (fun _ => rfl) (fun c0 => ?_) (fun c0 => ?_)
  · exact dw_j rfl (fun lv1 hv => k_X9_cures_b88 (Φ := (fun t => Φ t)) x0 x1 m (fun _a _b => kR _a _b)  (hv.1 _ rfl) (hv.2.1 _ rfl))
  · refine dw_g rfl ?_
    refine dg_s (pc' := 75) [.ref x0] rfl (fun _ => rfl) rfl ?_
    refine dg_s (pc' := 76) [.int x1, .ref x0] rfl (fun _ => rfl) rfl ?_
    refine dg_s (pc' := 77) [.int (1 : Int32), .int x1, .ref x0] rfl (fun _ => rfl) rfl ?_
    refine dw_if (fun t => Φ t) (¬ (Int32.toInt x1) = 1) [.ref x0] 84 80 rfl (fun _ => rfl) (fun c1 => ?_) (fun c1 => ?_)
    · refine dw_g rfl ?_
      refine dw_s (pc' := 85) [.int (0 : Int32), .ref x0] rfl (fun _ => rfl) ?_
      exact dw_j rfl (fun lv1 hv => k_X9_cures_b85 (Φ := (fun t => Φ t)) x0 x1 (0 : Int32) x0 m (fun _a _b => kR _a _b)  (hv.1 _ rfl) (hv.2.1 _ rfl))
    · refine dw_g rfl ?_
      refine dg_s (pc' := 81) [.int (1 : Int32), .ref x0] rfl (fun _ => rfl) rfl ?_
      refine dw_s (pc' := 85) [.int (1 : Int32), .ref x0] rfl (fun _ => rfl) ?_
      exact dw_j rfl (fun lv1 hv => k_X9_cures_b85 (Φ := (fun t => Φ t)) x0 x1 (1 : Int32) x0 m (fun _a _b => kR _a _b)  (hv.1 _ rfl) (hv.2.1 _ rfl))
noncomputable def d_X9_cures (x0 : Nat) (x1 : Int32) (m : dc_M) : Option (Int32 × dc_M) :=
  (if (Int32.toInt x1) < 0 then some (((-1 : Int32), m)) else (if (Int32.toInt x1) ≤ 1 then ((d_X9_isRight x0 m).bind (fun q1 => (if ¬ (Int32.toInt q1.1) = 0 then (if ¬ (Int32.toInt (d_X3_hasRoomForCure (q1.2.2.2.1 x0 7) q1.2)) = 0 then (if ¬ (Int32.toInt x1) = 0 then (if (Int32.toInt (q1.2.1 x0 16)) = (-100) then (d_X9_cures_b69 x0 x1 (0 : Int32) q1.2) else (d_X9_cures_b69 x0 x1 (1 : Int32) q1.2)) else (if (Int32.toInt (q1.2.1 x0 15)) = (-100) then (d_X9_cures_b69 x0 x1 (0 : Int32) q1.2) else (d_X9_cures_b69 x0 x1 (1 : Int32) q1.2))) else some (((-3 : Int32), q1.2))) else some (((-2 : Int32), q1.2))))) else some (((-1 : Int32), m))))
set_option maxHeartbeats 8000000 in
theorem k_X9_cures {u : Nat} {N : Nat} {Φ : (Option (Int32 × dc_M)) → Option Value → dc_M → Prop} (x0 : Nat) (x1 : Int32) (m : dc_M) (kR : ∀ (v : Int32) (m : dc_M), Φ (some ((v, m))) (some (.int v)) m)  {lv : ab_L} (f0 : ab_lk lv 0 = some (.ref x0)) (f1 : ab_lk lv 1 = some (.int x1)) : dc_pv u N ab_M_X9_cures 0 lv [] m (Φ (d_X9_cures x0 x1 m)) := by
  refine dc_pv.mono (dc_ok (C := C_X9_cures) (S := S_X9_cures) CO_X9_cures 400 0 [(0, .ref x0), (1, .int x1)] lv [] m (dc_sub_cons f0 (dc_sub_cons f1 (dc_sub_nil))) ?_) (Nat.le_succ N)
  unfold d_X9_cures
  refine dg_s (pc' := 1) [.int x1] rfl (fun _ => rfl) rfl ?_
  refine dw_if (fun t => Φ t) ((Int32.toInt x1) < 0) [] 9 4 rfl (fun _ => rfl) (fun c0 => ?_) (fun c0 => ?_)
  · refine dw_g rfl ?_
    refine dg_s (pc' := 10) [.int (-1 : Int32)] rfl (fun _ => rfl) rfl ?_
    exact dw_r (some (.inl (some (.int (-1 : Int32)), m))) rfl (fun _ => rfl) (kR _ _)
  · refine dw_g rfl ?_
    refine dg_s (pc' := 5) [.int x1] rfl (fun _ => rfl) rfl ?_
    refine dg_s (pc' := 6) [.int (1 : Int32), .int x1] rfl (fun _ => rfl) rfl ?_
    refine dw_if (fun t => Φ t) ((Int32.toInt x1) ≤ 1) [] 11 9 rfl (fun _ => rfl) (fun c1 => ?_) (fun c1 => ?_)
    · refine dw_g rfl ?_
      refine dg_s (pc' := 12) [.ref x0] rfl (fun _ => rfl) rfl ?_
      refine dw_b (fun t => Φ t) (pc' := 15) (fun q1 => [.int q1.1]) (fun q1 => q1.2) rfl (fun _ => rfl) (fun q1 => ?_)
      refine dw_g rfl ?_
      refine dw_if (fun t => Φ t) (¬ (Int32.toInt q1.1) = 0) [] 21 18 rfl (fun _ => rfl) (fun c2 => ?_) (fun c2 => ?_)
      · refine dw_g rfl ?_
        refine dg_s (pc' := 22) [.ref x0] rfl (fun _ => rfl) rfl ?_
        refine dg_s (pc' := 25) [.ref (q1.2.2.2.1 x0 7)] rfl (fun _ => rfl) rfl ?_
        refine dg_s (pc' := 28) [.int (d_X3_hasRoomForCure (q1.2.2.2.1 x0 7) q1.2)] rfl (fun _ => rfl) rfl ?_
        refine dw_if (fun t => Φ t) (¬ (Int32.toInt (d_X3_hasRoomForCure (q1.2.2.2.1 x0 7) q1.2)) = 0) [] 34 31 rfl (fun _ => rfl) (fun c3 => ?_) (fun c3 => ?_)
        · refine dw_g rfl ?_
          refine dg_s (pc' := 35) [.int x1] rfl (fun _ => rfl) rfl ?_
          refine dw_if (fun t => Φ t) (¬ (Int32.toInt x1) = 0) [] 55 38 rfl (fun _ => rfl) (fun c4 => ?_) (fun c4 => ?_)
          · refine dw_g rfl ?_
            refine dg_s (pc' := 56) [.ref x0] rfl (fun _ => rfl) rfl ?_
            refine dg_s (pc' := 59) [.int (q1.2.1 x0 16)] rfl (fun _ => rfl) rfl ?_
            refine dg_s (pc' := 61) [.int (-100 : Int32), .int (q1.2.1 x0 16)] rfl (fun _ => rfl) rfl ?_
            refine dw_if (fun t => Φ t) ((Int32.toInt (q1.2.1 x0 16)) = (-100)) [] 68 64 rfl (fun _ => rfl) (fun c5 => ?_) (fun c5 => ?_)
            · refine dw_g rfl ?_
              refine dw_s (pc' := 69) [.int (0 : Int32)] rfl (fun _ => rfl) ?_
              exact dw_j rfl (fun lv1 hv => k_X9_cures_b69 (Φ := (fun t => Φ t)) x0 x1 (0 : Int32) q1.2 (fun _a _b => kR _a _b)  (hv.1 _ rfl) (hv.2.1 _ rfl))
            · refine dw_g rfl ?_
              refine dg_s (pc' := 65) [.int (1 : Int32)] rfl (fun _ => rfl) rfl ?_
              refine dw_s (pc' := 69) [.int (1 : Int32)] rfl (fun _ => rfl) ?_
              exact dw_j rfl (fun lv1 hv => k_X9_cures_b69 (Φ := (fun t => Φ t)) x0 x1 (1 : Int32) q1.2 (fun _a _b => kR _a _b)  (hv.1 _ rfl) (hv.2.1 _ rfl))
          · refine dw_g rfl ?_
            refine dg_s (pc' := 39) [.ref x0] rfl (fun _ => rfl) rfl ?_
            refine dg_s (pc' := 42) [.int (q1.2.1 x0 15)] rfl (fun _ => rfl) rfl ?_
            refine dg_s (pc' := 44) [.int (-100 : Int32), .int (q1.2.1 x0 15)] rfl (fun _ => rfl) rfl ?_
            refine dw_if (fun t => Φ t) ((Int32.toInt (q1.2.1 x0 15)) = (-100)) [] 51 47 rfl (fun _ => rfl) (fun c5 => ?_) (fun c5 => ?_)
            · refine dw_g rfl ?_
              refine dg_s (pc' := 52) [.int (0 : Int32)] rfl (fun _ => rfl) rfl ?_
              refine dw_s (pc' := 69) [.int (0 : Int32)] rfl (fun _ => rfl) ?_
              exact dw_j rfl (fun lv1 hv => k_X9_cures_b69 (Φ := (fun t => Φ t)) x0 x1 (0 : Int32) q1.2 (fun _a _b => kR _a _b)  (hv.1 _ rfl) (hv.2.1 _ rfl))
            · refine dw_g rfl ?_
              refine dg_s (pc' := 48) [.int (1 : Int32)] rfl (fun _ => rfl) rfl ?_
              refine dw_s (pc' := 69) [.int (1 : Int32)] rfl (fun _ => rfl) ?_
              exact dw_j rfl (fun lv1 hv => k_X9_cures_b69 (Φ := (fun t => Φ t)) x0 x1 (1 : Int32) q1.2 (fun _a _b => kR _a _b)  (hv.1 _ rfl) (hv.2.1 _ rfl))
        · refine dw_g rfl ?_
          refine dg_s (pc' := 33) [.int (-3 : Int32)] rfl (fun _ => rfl) rfl ?_
          exact dw_r (some (.inl (some (.int (-3 : Int32)), q1.2))) rfl (fun _ => rfl) (kR _ _)
      · refine dw_g rfl ?_
        refine dg_s (pc' := 20) [.int (-2 : Int32)] rfl (fun _ => rfl) rfl ?_
        exact dw_r (some (.inl (some (.int (-2 : Int32)), q1.2))) rfl (fun _ => rfl) (kR _ _)
    · refine dw_g rfl ?_
      refine dg_s (pc' := 10) [.int (-1 : Int32)] rfl (fun _ => rfl) rfl ?_
      exact dw_r (some (.inl (some (.int (-1 : Int32)), m))) rfl (fun _ => rfl) (kR _ _)
noncomputable def H_X9_cures : dc_H := fun As m k => match As with
  | [.ref x0, .int x1] => (d_X9_cures x0 x1 m).bind (fun q => k (some (.int q.1)) q.2)
  | _ => dc_kz
theorem H_X9_cures_ok {u : Nat} : dc_cok u 120 H_X9_cures := fun M' hG N As m k P hz hP => by
  obtain rfl : ab_M_X9_cures = M' := Option.some.inj hG
  unfold H_X9_cures at hP
  split at hP
  · rename_i x0 x1
    exact dc_pv.imp (k_X9_cures (Φ := fun (t : Option (Int32 × dc_M)) r m' => P (t.bind (fun q => k (some (.int q.1)) q.2)) → P (k r m')) x0 x1 m (fun _ _ h => h) rfl rfl) (fun r m' h => h hP)
  · exact absurd hP hz
noncomputable def C_X10_cures : List (Nat × dc_H) := [(146, H_X10_in), (203, H_X10_isFull), (175, H_X10_layRight), (207, H_X10_tryCure)]
theorem CO_X10_cures {u : Nat} : dc_CO u C_X10_cures := dc_CO_cons H_X10_in_ok (dc_CO_cons H_X10_isFull_ok (dc_CO_cons H_X10_layRight_ok (dc_CO_cons H_X10_tryCure_ok (dc_CO_nil))))
def S_X10_cures : List (Nat × List Nat) := [(40, [0, 1, 2, 3, 4]), (52, [0, 1, 2, 3, 4, 5]), (111, [1, 2, 3])]
noncomputable def d_X10_cures_b111 (x1 : Int32) (x2 : Int32) (x3 : Int32) (m : dc_M) : Option (Int32 × dc_M) :=
  (if ¬ (Int32.toInt x1) = 0 then some ((x3, m)) else some ((x2, m)))
set_option maxHeartbeats 8000000 in
theorem k_X10_cures_b111 {u : Nat} {N : Nat} {Φ : (Option (Int32 × dc_M)) → Option Value → dc_M → Prop} (x1 : Int32) (x2 : Int32) (x3 : Int32) (m : dc_M) (kR : ∀ (v : Int32) (m : dc_M), Φ (some ((v, m))) (some (.int v)) m)  {lv : ab_L} (f1 : ab_lk lv 1 = some (.int x1)) (f2 : ab_lk lv 2 = some (.int x2)) (f3 : ab_lk lv 3 = some (.int x3)) : dc_pv u N ab_M_X10_cures 111 lv [] m (Φ (d_X10_cures_b111 x1 x2 x3 m)) := by
  refine dc_pv.mono (dc_ok (C := C_X10_cures) (S := S_X10_cures) CO_X10_cures 400 111 [(1, .int x1), (2, .int x2), (3, .int x3)] lv [] m (dc_sub_cons f1 (dc_sub_cons f2 (dc_sub_cons f3 (dc_sub_nil)))) ?_) (Nat.le_succ N)
  unfold d_X10_cures_b111
  refine dg_s (pc' := 112) [.int x1] rfl (fun _ => rfl) rfl ?_
  refine dw_if (fun t => Φ t) (¬ (Int32.toInt x1) = 0) [] 119 115 rfl (fun _ => rfl) (fun c0 => ?_) (fun c0 => ?_)
  · refine dw_g rfl ?_
    refine dg_s (pc' := 120) [.int x3] rfl (fun _ => rfl) rfl ?_
    exact dw_r (some (.inl (some (.int x3), m))) rfl (fun _ => rfl) (kR _ _)
  · refine dw_g rfl ?_
    refine dg_s (pc' := 116) [.int x2] rfl (fun _ => rfl) rfl ?_
    refine dg_s (pc' := 120) [.int x2] rfl (fun _ => rfl) rfl ?_
    exact dw_r (some (.inl (some (.int x2), m))) rfl (fun _ => rfl) (kR _ _)
noncomputable def d_X10_cures_l52b (x0 : Nat) (x1 : Int32) (x4 : Int32) (x2 : Int32) (x3 : Int32) (x5 : Int32) (m : dc_M) : Option ((Int32 × Int32 × Int32 × dc_M) ⊕ ((Int32 × Int32 × Int32 × dc_M) ⊕ (Int32 × dc_M))) :=
  (if (Int32.toInt (m.1 x0 3)) ≤ (Int32.toInt x5) then some (Sum.inr (Sum.inl (x2, x3, (x4 + (1 : Int32)), m))) else (if (Int32.toInt x4) = (Int32.toInt x5) then some (Sum.inl (x2, x3, (x5 + (1 : Int32)), m)) else ((d_X10_tryCure x0 x4 x5 m).bind (fun q1 => (if ¬ (Int32.toInt q1.1) = 0 then some (Sum.inl (x2, x3, (x5 + (1 : Int32)), q1.2)) else (if ¬ (Int32.toInt x3) = 0 then some (Sum.inl (x2, (x3 + (1 : Int32)), (x5 + (1 : Int32)), q1.2)) else some (Sum.inl ((((100 : Int32) * x4) + x5), (x3 + (1 : Int32)), (x5 + (1 : Int32)), q1.2))))))))
noncomputable def d_X10_cures_l52s (x0 : Nat) (x1 : Int32) (x4 : Int32) : (Int32 × Int32 × Int32 × dc_M) → Option ((Int32 × Int32 × Int32 × dc_M) ⊕ ((Int32 × Int32 × Int32 × dc_M) ⊕ (Int32 × dc_M))) := fun s => d_X10_cures_l52b x0 x1 x4 s.1 s.2.1 s.2.2.1 s.2.2.2
noncomputable def d_X10_cures_l52 (x0 : Nat) (x1 : Int32) (x4 : Int32) (x2 : Int32) (x3 : Int32) (x5 : Int32) (m : dc_M) : Option ((Int32 × Int32 × Int32 × dc_M) ⊕ (Int32 × dc_M)) := dc_lp (d_X10_cures_l52s x0 x1 x4) (x2, x3, x5, m)
set_option maxHeartbeats 8000000 in
theorem k_X10_cures_l52 {u : Nat} {Φ : (Option ((Int32 × Int32 × Int32 × dc_M) ⊕ (Int32 × dc_M))) → Option Value → dc_M → Prop} (x0 : Nat) (x1 : Int32) (x4 : Int32) (kR : ∀ (v : Int32) (m : dc_M), Φ (some (Sum.inr ((v, m)))) (some (.int v)) m) : ∀ (N : Nat), (∀ (x2 : Int32) (x3 : Int32) (x4 : Int32) (m : dc_M) (lv : ab_L), ab_lk lv 0 = some (.ref x0) → ab_lk lv 1 = some (.int x1) → ab_lk lv 2 = some (.int x2) → ab_lk lv 3 = some (.int x3) → ab_lk lv 4 = some (.int x4) →  dc_pv u N ab_M_X10_cures 40 lv [] m (Φ (some (Sum.inl (x2, x3, x4, m))))) → ∀ (x2 : Int32) (x3 : Int32) (x5 : Int32) (m : dc_M) (lv : ab_L), ab_lk lv 0 = some (.ref x0) → ab_lk lv 1 = some (.int x1) → ab_lk lv 2 = some (.int x2) → ab_lk lv 3 = some (.int x3) → ab_lk lv 4 = some (.int x4) → ab_lk lv 5 = some (.int x5) → dc_pv u N ab_M_X10_cures 52 lv [] m (Φ (d_X10_cures_l52 x0 x1 x4 x2 x3 x5 m)) := by
  intro N
  induction N with
  | zero => intros; exact dc_pv_zero
  | succ N ih =>
    intro k40 x2 x3 x5 m lv f0 f1 f2 f3 f4 f5
    have k40 := fun a0 a1 a2 a3 a4 a5 a6 a7 a8 a9 => (k40 a0 a1 a2 a3 a4 a5 a6 a7 a8 a9).mono (Nat.le_succ N)
    have ih := ih k40
    refine dc_ok (C := C_X10_cures) (S := S_X10_cures) CO_X10_cures 400 52 [(0, .ref x0), (1, .int x1), (2, .int x2), (3, .int x3), (4, .int x4), (5, .int x5)] lv [] m (dc_sub_cons f0 (dc_sub_cons f1 (dc_sub_cons f2 (dc_sub_cons f3 (dc_sub_cons f4 (dc_sub_cons f5 (dc_sub_nil))))))) ?_
    unfold d_X10_cures_l52
    rw [dc_lp_eq]
    show (fun t x => dc_lf u N ab_M_X10_cures (Φ (Option.bind t (dc_bk (d_X10_cures_l52s x0 x1 x4)))) x) (d_X10_cures_l52b x0 x1 x4 x2 x3 x5 m) _
    dsimp only
    unfold d_X10_cures_l52b
    refine dg_s (pc' := 54) [.int x5] rfl (fun _ => rfl) rfl ?_
    refine dg_s (pc' := 55) [.ref x0, .int x5] rfl (fun _ => rfl) rfl ?_
    refine dg_s (pc' := 58) [.int (m.1 x0 3), .int x5] rfl (fun _ => rfl) rfl ?_
    refine dw_if (fun t => Φ (Option.bind t (dc_bk (d_X10_cures_l52s x0 x1 x4)))) ((Int32.toInt (m.1 x0 3)) ≤ (Int32.toInt x5)) [] 105 61 rfl (fun _ => rfl) (fun c0 => ?_) (fun c0 => ?_)
    · refine dw_g rfl ?_
      refine dg_L (pc' := 108) [(4, .int (x4 + (1 : Int32))), (0, .ref x0), (1, .int x1), (2, .int x2), (3, .int x3), (5, .int x5)] [] rfl (fun _ => rfl) rfl ?_
      refine dw_s (pc' := 40) [] rfl (fun _ => rfl) ?_
      exact dw_j rfl (fun lv1 hv => k40 x2 x3 (x4 + (1 : Int32)) m lv1 (hv.1 _ rfl) (hv.2.1 _ rfl) (hv.2.2.1 _ rfl) (hv.2.2.2.1 _ rfl) (hv.2.2.2.2.1 _ rfl))
    · refine dw_g rfl ?_
      refine dg_s (pc' := 63) [.int x4] rfl (fun _ => rfl) rfl ?_
      refine dg_s (pc' := 65) [.int x5, .int x4] rfl (fun _ => rfl) rfl ?_
      refine dw_if (fun t => Φ (Option.bind t (dc_bk (d_X10_cures_l52s x0 x1 x4)))) ((Int32.toInt x4) = (Int32.toInt x5)) [] 99 68 rfl (fun _ => rfl) (fun c1 => ?_) (fun c1 => ?_)
      · refine dw_g rfl ?_
        refine dg_L (pc' := 102) [(5, .int (x5 + (1 : Int32))), (0, .ref x0), (1, .int x1), (2, .int x2), (3, .int x3), (4, .int x4)] [] rfl (fun _ => rfl) rfl ?_
        refine dw_s (pc' := 52) [] rfl (fun _ => rfl) ?_
        exact dw_j rfl (fun lv1 hv => ih x2 x3 (x5 + (1 : Int32)) m lv1 (hv.1 _ rfl) (hv.2.1 _ rfl) (hv.2.2.1 _ rfl) (hv.2.2.2.1 _ rfl) (hv.2.2.2.2.1 _ rfl) (hv.2.2.2.2.2.1 _ rfl))
      · refine dw_g rfl ?_
        refine dg_s (pc' := 69) [.ref x0] rfl (fun _ => rfl) rfl ?_
        refine dg_s (pc' := 71) [.int x4, .ref x0] rfl (fun _ => rfl) rfl ?_
        refine dg_s (pc' := 73) [.int x5, .int x4, .ref x0] rfl (fun _ => rfl) rfl ?_
        refine dw_b (fun t => Φ (Option.bind t (dc_bk (d_X10_cures_l52s x0 x1 x4)))) (pc' := 76) (fun q1 => [.int q1.1]) (fun q1 => q1.2) rfl (fun _ => rfl) (fun q1 => ?_)
        refine dw_g rfl ?_
        refine dw_if (fun t => Φ (Option.bind t (dc_bk (d_X10_cures_l52s x0 x1 x4)))) (¬ (Int32.toInt q1.1) = 0) [] 99 79 rfl (fun _ => rfl) (fun c2 => ?_) (fun c2 => ?_)
        · refine dw_g rfl ?_
          refine dg_L (pc' := 102) [(5, .int (x5 + (1 : Int32))), (0, .ref x0), (1, .int x1), (2, .int x2), (3, .int x3), (4, .int x4)] [] rfl (fun _ => rfl) rfl ?_
          refine dw_s (pc' := 52) [] rfl (fun _ => rfl) ?_
          exact dw_j rfl (fun lv1 hv => ih x2 x3 (x5 + (1 : Int32)) q1.2 lv1 (hv.1 _ rfl) (hv.2.1 _ rfl) (hv.2.2.1 _ rfl) (hv.2.2.2.1 _ rfl) (hv.2.2.2.2.1 _ rfl) (hv.2.2.2.2.2.1 _ rfl))
        · refine dw_g rfl ?_
          refine dg_s (pc' := 80) [.int x3] rfl (fun _ => rfl) rfl ?_
          refine dw_if (fun t => Φ (Option.bind t (dc_bk (d_X10_cures_l52s x0 x1 x4)))) (¬ (Int32.toInt x3) = 0) [] 94 83 rfl (fun _ => rfl) (fun c3 => ?_) (fun c3 => ?_)
          · refine dw_g rfl ?_
            refine dg_s (pc' := 95) [.int x2] rfl (fun _ => rfl) rfl ?_
            refine dg_L (pc' := 96) [(2, .int x2), (0, .ref x0), (1, .int x1), (3, .int x3), (4, .int x4), (5, .int x5)] [] rfl (fun _ => rfl) rfl ?_
            refine dg_L (pc' := 99) [(3, .int (x3 + (1 : Int32))), (2, .int x2), (0, .ref x0), (1, .int x1), (4, .int x4), (5, .int x5)] [] rfl (fun _ => rfl) rfl ?_
            refine dg_L (pc' := 102) [(5, .int (x5 + (1 : Int32))), (3, .int (x3 + (1 : Int32))), (2, .int x2), (0, .ref x0), (1, .int x1), (4, .int x4)] [] rfl (fun _ => rfl) rfl ?_
            refine dw_s (pc' := 52) [] rfl (fun _ => rfl) ?_
            exact dw_j rfl (fun lv1 hv => ih x2 (x3 + (1 : Int32)) (x5 + (1 : Int32)) q1.2 lv1 (hv.1 _ rfl) (hv.2.1 _ rfl) (hv.2.2.1 _ rfl) (hv.2.2.2.1 _ rfl) (hv.2.2.2.2.1 _ rfl) (hv.2.2.2.2.2.1 _ rfl))
          · refine dw_g rfl ?_
            refine dg_s (pc' := 85) [.int (100 : Int32)] rfl (fun _ => rfl) rfl ?_
            refine dg_s (pc' := 87) [.int x4, .int (100 : Int32)] rfl (fun _ => rfl) rfl ?_
            refine dg_s (pc' := 88) [.int ((100 : Int32) * x4)] rfl (fun _ => rfl) rfl ?_
            refine dg_s (pc' := 90) [.int x5, .int ((100 : Int32) * x4)] rfl (fun _ => rfl) rfl ?_
            refine dg_s (pc' := 91) [.int (((100 : Int32) * x4) + x5)] rfl (fun _ => rfl) rfl ?_
            refine dg_s (pc' := 95) [.int (((100 : Int32) * x4) + x5)] rfl (fun _ => rfl) rfl ?_
            refine dg_L (pc' := 96) [(2, .int (((100 : Int32) * x4) + x5)), (0, .ref x0), (1, .int x1), (3, .int x3), (4, .int x4), (5, .int x5)] [] rfl (fun _ => rfl) rfl ?_
            refine dg_L (pc' := 99) [(3, .int (x3 + (1 : Int32))), (2, .int (((100 : Int32) * x4) + x5)), (0, .ref x0), (1, .int x1), (4, .int x4), (5, .int x5)] [] rfl (fun _ => rfl) rfl ?_
            refine dg_L (pc' := 102) [(5, .int (x5 + (1 : Int32))), (3, .int (x3 + (1 : Int32))), (2, .int (((100 : Int32) * x4) + x5)), (0, .ref x0), (1, .int x1), (4, .int x4)] [] rfl (fun _ => rfl) rfl ?_
            refine dw_s (pc' := 52) [] rfl (fun _ => rfl) ?_
            exact dw_j rfl (fun lv1 hv => ih (((100 : Int32) * x4) + x5) (x3 + (1 : Int32)) (x5 + (1 : Int32)) q1.2 lv1 (hv.1 _ rfl) (hv.2.1 _ rfl) (hv.2.2.1 _ rfl) (hv.2.2.2.1 _ rfl) (hv.2.2.2.2.1 _ rfl) (hv.2.2.2.2.2.1 _ rfl))
noncomputable def d_X10_cures_l40b (x0 : Nat) (x1 : Int32) (x2 : Int32) (x3 : Int32) (x4 : Int32) (m : dc_M) : Option ((Int32 × Int32 × Int32 × dc_M) ⊕ (Int32 × dc_M)) :=
  (if (Int32.toInt (m.1 x0 3)) ≤ (Int32.toInt x4) then ((d_X10_cures_b111 x1 x2 x3 m).map (fun z => Sum.inr (z))) else (d_X10_cures_l52 x0 x1 x4 x2 x3 (0 : Int32) m))
noncomputable def d_X10_cures_l40s (x0 : Nat) (x1 : Int32) : (Int32 × Int32 × Int32 × dc_M) → Option ((Int32 × Int32 × Int32 × dc_M) ⊕ (Int32 × dc_M)) := fun s => d_X10_cures_l40b x0 x1 s.1 s.2.1 s.2.2.1 s.2.2.2
noncomputable def d_X10_cures_l40 (x0 : Nat) (x1 : Int32) (x2 : Int32) (x3 : Int32) (x4 : Int32) (m : dc_M) : Option (Int32 × dc_M) := dc_lp (d_X10_cures_l40s x0 x1) (x2, x3, x4, m)
set_option maxHeartbeats 8000000 in
theorem k_X10_cures_l40 {u : Nat} {Φ : (Option (Int32 × dc_M)) → Option Value → dc_M → Prop} (x0 : Nat) (x1 : Int32) (kR : ∀ (v : Int32) (m : dc_M), Φ (some ((v, m))) (some (.int v)) m) : ∀ (N : Nat), ∀ (x2 : Int32) (x3 : Int32) (x4 : Int32) (m : dc_M) (lv : ab_L), ab_lk lv 0 = some (.ref x0) → ab_lk lv 1 = some (.int x1) → ab_lk lv 2 = some (.int x2) → ab_lk lv 3 = some (.int x3) → ab_lk lv 4 = some (.int x4) → dc_pv u N ab_M_X10_cures 40 lv [] m (Φ (d_X10_cures_l40 x0 x1 x2 x3 x4 m)) := by
  intro N
  induction N with
  | zero => intros; exact dc_pv_zero
  | succ N ih =>
    intro x2 x3 x4 m lv f0 f1 f2 f3 f4
    refine dc_ok (C := C_X10_cures) (S := S_X10_cures) CO_X10_cures 400 40 [(0, .ref x0), (1, .int x1), (2, .int x2), (3, .int x3), (4, .int x4)] lv [] m (dc_sub_cons f0 (dc_sub_cons f1 (dc_sub_cons f2 (dc_sub_cons f3 (dc_sub_cons f4 (dc_sub_nil)))))) ?_
    unfold d_X10_cures_l40
    rw [dc_lp_eq]
    show (fun t x => dc_lf u N ab_M_X10_cures (Φ (Option.bind t (dc_bk (d_X10_cures_l40s x0 x1)))) x) (d_X10_cures_l40b x0 x1 x2 x3 x4 m) _
    dsimp only
    unfold d_X10_cures_l40b
    refine dg_s (pc' := 42) [.int x4] rfl (fun _ => rfl) rfl ?_
    refine dg_s (pc' := 43) [.ref x0, .int x4] rfl (fun _ => rfl) rfl ?_
    refine dg_s (pc' := 46) [.int (m.1 x0 3), .int x4] rfl (fun _ => rfl) rfl ?_
    refine dw_if (fun t => Φ (Option.bind t (dc_bk (d_X10_cures_l40s x0 x1)))) ((Int32.toInt (m.1 x0 3)) ≤ (Int32.toInt x4)) [] 111 49 rfl (fun _ => rfl) (fun c0 => ?_) (fun c0 => ?_)
    · exact dw_j rfl (fun lv1 hv => k_X10_cures_b111 (Φ := (fun t => Φ (Option.bind (t.map (fun z => Sum.inr (z))) (dc_bk (d_X10_cures_l40s x0 x1))))) x1 x2 x3 m (fun _a _b => kR _a _b)  (hv.1 _ rfl) (hv.2.1 _ rfl) (hv.2.2.1 _ rfl))
    · refine dw_g rfl ?_
      refine dg_s (pc' := 50) [.int (0 : Int32)] rfl (fun _ => rfl) rfl ?_
      refine dw_L (pc' := 52) [(5, .int (0 : Int32)), (0, .ref x0), (1, .int x1), (2, .int x2), (3, .int x3), (4, .int x4)] [] rfl (fun _ => rfl) ?_
      exact dw_j rfl (fun lv1 hv => k_X10_cures_l52 (Φ := (fun t => Φ (Option.bind t (dc_bk (d_X10_cures_l40s x0 x1))))) x0 x1 x4 (fun _a _b => kR _a _b) N ih x2 x3 (0 : Int32) m lv1 (hv.1 _ rfl) (hv.2.1 _ rfl) (hv.2.2.1 _ rfl) (hv.2.2.2.1 _ rfl) (hv.2.2.2.2.1 _ rfl) (hv.2.2.2.2.2.1 _ rfl))
noncomputable def d_X10_cures (x0 : Nat) (x1 : Int32) (m : dc_M) : Option (Int32 × dc_M) :=
  (if ¬ (Int32.toInt (d_X10_in (Int32.toInt64 x1) (0 : Int64) (1 : Int64) m)) = 0 then ((d_X10_layRight x0 m).bind (fun q1 => (if ¬ (Int32.toInt q1.1) = 0 then (if (Int32.toInt (d_X10_isFull x0 q1.2)) = 0 then (d_X10_cures_l40 x0 x1 (-4 : Int32) (0 : Int32) (0 : Int32) q1.2) else some (((-3 : Int32), q1.2))) else some (((-2 : Int32), q1.2))))) else some (((-1 : Int32), m)))
set_option maxHeartbeats 8000000 in
theorem k_X10_cures {u : Nat} {N : Nat} {Φ : (Option (Int32 × dc_M)) → Option Value → dc_M → Prop} (x0 : Nat) (x1 : Int32) (m : dc_M) (kR : ∀ (v : Int32) (m : dc_M), Φ (some ((v, m))) (some (.int v)) m)  {lv : ab_L} (f0 : ab_lk lv 0 = some (.ref x0)) (f1 : ab_lk lv 1 = some (.int x1)) : dc_pv u N ab_M_X10_cures 0 lv [] m (Φ (d_X10_cures x0 x1 m)) := by
  refine dc_pv.mono (dc_ok (C := C_X10_cures) (S := S_X10_cures) CO_X10_cures 400 0 [(0, .ref x0), (1, .int x1)] lv [] m (dc_sub_cons f0 (dc_sub_cons f1 (dc_sub_nil))) ?_) (Nat.le_succ N)
  unfold d_X10_cures
  refine dg_s (pc' := 1) [.int x1] rfl (fun _ => rfl) rfl ?_
  refine dg_s (pc' := 2) [.long (Int32.toInt64 x1)] rfl (fun _ => rfl) rfl ?_
  refine dg_s (pc' := 3) [.long (0 : Int64), .long (Int32.toInt64 x1)] rfl (fun _ => rfl) rfl ?_
  refine dg_s (pc' := 4) [.long (1 : Int64), .long (0 : Int64), .long (Int32.toInt64 x1)] rfl (fun _ => rfl) rfl ?_
  refine dg_s (pc' := 7) [.int (d_X10_in (Int32.toInt64 x1) (0 : Int64) (1 : Int64) m)] rfl (fun _ => rfl) rfl ?_
  refine dw_if (fun t => Φ t) (¬ (Int32.toInt (d_X10_in (Int32.toInt64 x1) (0 : Int64) (1 : Int64) m)) = 0) [] 12 10 rfl (fun _ => rfl) (fun c0 => ?_) (fun c0 => ?_)
  · refine dw_g rfl ?_
    refine dg_s (pc' := 13) [.ref x0] rfl (fun _ => rfl) rfl ?_
    refine dw_b (fun t => Φ t) (pc' := 16) (fun q1 => [.int q1.1]) (fun q1 => q1.2) rfl (fun _ => rfl) (fun q1 => ?_)
    refine dw_g rfl ?_
    refine dw_if (fun t => Φ t) (¬ (Int32.toInt q1.1) = 0) [] 22 19 rfl (fun _ => rfl) (fun c1 => ?_) (fun c1 => ?_)
    · refine dw_g rfl ?_
      refine dg_s (pc' := 23) [.ref x0] rfl (fun _ => rfl) rfl ?_
      refine dg_s (pc' := 26) [.int (d_X10_isFull x0 q1.2)] rfl (fun _ => rfl) rfl ?_
      refine dw_if (fun t => Φ t) ((Int32.toInt (d_X10_isFull x0 q1.2)) = 0) [] 32 29 rfl (fun _ => rfl) (fun c2 => ?_) (fun c2 => ?_)
      · refine dw_g rfl ?_
        refine dg_s (pc' := 34) [.int (-4 : Int32)] rfl (fun _ => rfl) rfl ?_
        refine dg_L (pc' := 35) [(2, .int (-4 : Int32)), (0, .ref x0), (1, .int x1)] [] rfl (fun _ => rfl) rfl ?_
        refine dg_s (pc' := 36) [.int (0 : Int32)] rfl (fun _ => rfl) rfl ?_
        refine dg_L (pc' := 37) [(3, .int (0 : Int32)), (2, .int (-4 : Int32)), (0, .ref x0), (1, .int x1)] [] rfl (fun _ => rfl) rfl ?_
        refine dg_s (pc' := 38) [.int (0 : Int32)] rfl (fun _ => rfl) rfl ?_
        refine dw_L (pc' := 40) [(4, .int (0 : Int32)), (3, .int (0 : Int32)), (2, .int (-4 : Int32)), (0, .ref x0), (1, .int x1)] [] rfl (fun _ => rfl) ?_
        exact dw_j rfl (fun lv1 hv => k_X10_cures_l40 (Φ := (fun t => Φ t)) x0 x1 (fun _a _b => kR _a _b) N  (-4 : Int32) (0 : Int32) (0 : Int32) q1.2 lv1 (hv.1 _ rfl) (hv.2.1 _ rfl) (hv.2.2.1 _ rfl) (hv.2.2.2.1 _ rfl) (hv.2.2.2.2.1 _ rfl))
      · refine dw_g rfl ?_
        refine dg_s (pc' := 31) [.int (-3 : Int32)] rfl (fun _ => rfl) rfl ?_
        exact dw_r (some (.inl (some (.int (-3 : Int32)), q1.2))) rfl (fun _ => rfl) (kR _ _)
    · refine dw_g rfl ?_
      refine dg_s (pc' := 21) [.int (-2 : Int32)] rfl (fun _ => rfl) rfl ?_
      exact dw_r (some (.inl (some (.int (-2 : Int32)), q1.2))) rfl (fun _ => rfl) (kR _ _)
  · refine dw_g rfl ?_
    refine dg_s (pc' := 11) [.int (-1 : Int32)] rfl (fun _ => rfl) rfl ?_
    exact dw_r (some (.inl (some (.int (-1 : Int32)), m))) rfl (fun _ => rfl) (kR _ _)
noncomputable def H_X10_cures : dc_H := fun As m k => match As with
  | [.ref x0, .int x1] => (d_X10_cures x0 x1 m).bind (fun q => k (some (.int q.1)) q.2)
  | _ => dc_kz
theorem H_X10_cures_ok {u : Nat} : dc_cok u 210 H_X10_cures := fun M' hG N As m k P hz hP => by
  obtain rfl : ab_M_X10_cures = M' := Option.some.inj hG
  unfold H_X10_cures at hP
  split at hP
  · rename_i x0 x1
    exact dc_pv.imp (k_X10_cures (Φ := fun (t : Option (Int32 × dc_M)) r m' => P (t.bind (fun q => k (some (.int q.1)) q.2)) → P (k r m')) x0 x1 m (fun _ _ h => h) rfl rfl) (fun r m' h => h hP)
  · exact absurd hP hz
def C_X9_delay : List (Nat × dc_H) := [(26, H_X3_hasEvent)]
theorem CO_X9_delay {u : Nat} : dc_CO u C_X9_delay := dc_CO_cons H_X3_hasEvent_ok (dc_CO_nil)
def S_X9_delay : List (Nat × List Nat) := []
def d_X9_delay (x0 : Nat) (x1 : Int32) (x2 : Int32) (m : dc_M) : (Int32 × dc_M) :=
  (if (Int32.toInt (d_X3_hasEvent (m.2.2.1 x0 7) x1 m)) = 0 then ((-1 : Int32), m) else (if (Int32.toInt x2) < 1 then ((-1 : Int32), m) else (if (Int32.toInt x2) ≤ 20 then ((m.1 ((m.2.2.1 x0 7) + 8) (Int32.toNatClampNeg x1)), (dc_wi (dc_wi m ((m.2.2.1 x0 7) + 8) (Int32.toNatClampNeg x1) x2) x0 14 (0 : Int32))) else ((-1 : Int32), m))))
set_option maxHeartbeats 8000000 in
theorem k_X9_delay {u : Nat} {N : Nat} {Φ : (Int32 × dc_M) → Option Value → dc_M → Prop} (x0 : Nat) (x1 : Int32) (x2 : Int32) (m : dc_M) (kR : ∀ (v : Int32) (m : dc_M), Φ ((v, m)) (some (.int v)) m)  {lv : ab_L} (f0 : ab_lk lv 0 = some (.ref x0)) (f1 : ab_lk lv 1 = some (.int x1)) (f2 : ab_lk lv 2 = some (.int x2)) : dc_pv u N ab_M_X9_delay 0 lv [] m (Φ (d_X9_delay x0 x1 x2 m)) := by
  refine dc_pv.mono (dc_ok (C := C_X9_delay) (S := S_X9_delay) CO_X9_delay 400 0 [(0, .ref x0), (1, .int x1), (2, .int x2)] lv [] m (dc_sub_cons f0 (dc_sub_cons f1 (dc_sub_cons f2 (dc_sub_nil)))) ?_) (Nat.le_succ N)
  unfold d_X9_delay
  refine dg_s (pc' := 1) [.ref x0] rfl (fun _ => rfl) rfl ?_
  refine dg_s (pc' := 4) [.ref (m.2.2.1 x0 7)] rfl (fun _ => rfl) rfl ?_
  refine dg_s (pc' := 5) [.int x1, .ref (m.2.2.1 x0 7)] rfl (fun _ => rfl) rfl ?_
  refine dg_s (pc' := 8) [.int (d_X3_hasEvent (m.2.2.1 x0 7) x1 m)] rfl (fun _ => rfl) rfl ?_
  refine dw_if (fun t => Φ t) ((Int32.toInt (d_X3_hasEvent (m.2.2.1 x0 7) x1 m)) = 0) [] 22 11 rfl (fun _ => rfl) (fun c0 => ?_) (fun c0 => ?_)
  · refine dw_g rfl ?_
    refine dg_s (pc' := 23) [.int (-1 : Int32)] rfl (fun _ => rfl) rfl ?_
    exact dw_r (some (.inl (some (.int (-1 : Int32)), m))) rfl (fun _ => rfl) (kR _ _)
  · refine dw_g rfl ?_
    refine dg_s (pc' := 12) [.int x2] rfl (fun _ => rfl) rfl ?_
    refine dg_s (pc' := 13) [.int (1 : Int32), .int x2] rfl (fun _ => rfl) rfl ?_
    refine dw_if (fun t => Φ t) ((Int32.toInt x2) < 1) [] 22 16 rfl (fun _ => rfl) (fun c1 => ?_) (fun c1 => ?_)
    · refine dw_g rfl ?_
      refine dg_s (pc' := 23) [.int (-1 : Int32)] rfl (fun _ => rfl) rfl ?_
      exact dw_r (some (.inl (some (.int (-1 : Int32)), m))) rfl (fun _ => rfl) (kR _ _)
    · refine dw_g rfl ?_
      refine dg_s (pc' := 17) [.int x2] rfl (fun _ => rfl) rfl ?_
      refine dg_s (pc' := 19) [.int (20 : Int32), .int x2] rfl (fun _ => rfl) rfl ?_
      refine dw_if (fun t => Φ t) ((Int32.toInt x2) ≤ 20) [] 24 22 rfl (fun _ => rfl) (fun c2 => ?_) (fun c2 => ?_)
      · refine dw_g rfl ?_
        refine dg_s (pc' := 25) [.ref x0] rfl (fun _ => rfl) rfl ?_
        refine dg_s (pc' := 28) [.ref (m.2.2.1 x0 7)] rfl (fun _ => rfl) rfl ?_
        refine dg_s (pc' := 31) [.ref ((m.2.2.1 x0 7) + 8)] rfl (fun _ => rfl) rfl ?_
        refine dg_s (pc' := 32) [.int x1, .ref ((m.2.2.1 x0 7) + 8)] rfl (fun _ => rfl) rfl ?_
        refine dg_s (pc' := 33) [.int (m.1 ((m.2.2.1 x0 7) + 8) (Int32.toNatClampNeg x1))] rfl (fun _ => rfl) rfl ?_
        refine dg_L (pc' := 34) [(3, .int (m.1 ((m.2.2.1 x0 7) + 8) (Int32.toNatClampNeg x1))), (0, .ref x0), (1, .int x1), (2, .int x2)] [] rfl (fun _ => rfl) rfl ?_
        refine dg_s (pc' := 35) [.ref x0] rfl (fun _ => rfl) rfl ?_
        refine dg_s (pc' := 38) [.ref (m.2.2.1 x0 7)] rfl (fun _ => rfl) rfl ?_
        refine dg_s (pc' := 41) [.ref ((m.2.2.1 x0 7) + 8)] rfl (fun _ => rfl) rfl ?_
        refine dg_s (pc' := 42) [.int x1, .ref ((m.2.2.1 x0 7) + 8)] rfl (fun _ => rfl) rfl ?_
        refine dg_s (pc' := 43) [.int x2, .int x1, .ref ((m.2.2.1 x0 7) + 8)] rfl (fun _ => rfl) rfl ?_
        refine dg_m (pc' := 44) (dc_wi m ((m.2.2.1 x0 7) + 8) (Int32.toNatClampNeg x1) x2) [] rfl (fun _ => rfl) rfl ?_
        refine dg_s (pc' := 45) [.ref x0] rfl (fun _ => rfl) rfl ?_
        refine dg_s (pc' := 46) [.int (0 : Int32), .ref x0] rfl (fun _ => rfl) rfl ?_
        refine dg_m (pc' := 49) (dc_wi (dc_wi m ((m.2.2.1 x0 7) + 8) (Int32.toNatClampNeg x1) x2) x0 14 (0 : Int32)) [] rfl (fun _ => rfl) rfl ?_
        refine dg_s (pc' := 50) [.int (m.1 ((m.2.2.1 x0 7) + 8) (Int32.toNatClampNeg x1))] rfl (fun _ => rfl) rfl ?_
        exact dw_r (some (.inl (some (.int (m.1 ((m.2.2.1 x0 7) + 8) (Int32.toNatClampNeg x1))), (dc_wi (dc_wi m ((m.2.2.1 x0 7) + 8) (Int32.toNatClampNeg x1) x2) x0 14 (0 : Int32))))) rfl (fun _ => rfl) (kR _ _)
      · refine dw_g rfl ?_
        refine dg_s (pc' := 23) [.int (-1 : Int32)] rfl (fun _ => rfl) rfl ?_
        exact dw_r (some (.inl (some (.int (-1 : Int32)), m))) rfl (fun _ => rfl) (kR _ _)
def H_X9_delay : dc_H := fun As m k => match As with
  | [.ref x0, .int x1, .int x2] => dc_let (d_X9_delay x0 x1 x2 m) (fun q => k (some (.int q.1)) q.2)
  | _ => dc_kz
theorem H_X9_delay_ok {u : Nat} : dc_cok u 121 H_X9_delay := fun M' hG N As m k P hz hP => by
  obtain rfl : ab_M_X9_delay = M' := Option.some.inj hG
  unfold H_X9_delay at hP
  split at hP
  · rename_i x0 x1 x2
    exact dc_pv.imp (k_X9_delay (Φ := fun (t : (Int32 × dc_M)) r m' => P (dc_let t (fun q => k (some (.int q.1)) q.2)) → P (k r m')) x0 x1 x2 m (fun _ _ h => h) rfl rfl rfl) (fun r m' h => h hP)
  · exact absurd hP hz
def C_X10_delay : List (Nat × dc_H) := [(146, H_X10_in), (163, H_X10_isEvent)]
theorem CO_X10_delay {u : Nat} : dc_CO u C_X10_delay := dc_CO_cons H_X10_in_ok (dc_CO_cons H_X10_isEvent_ok (dc_CO_nil))
def S_X10_delay : List (Nat × List Nat) := []
def d_X10_delay (x0 : Nat) (x1 : Int32) (x2 : Int32) (m : dc_M) : (Int32 × dc_M) :=
  (if (Int32.toInt (d_X10_isEvent x0 x1 m)) = 0 then ((-1 : Int32), m) else (if ¬ (Int32.toInt (d_X10_in (Int32.toInt64 x2) (1 : Int64) (20 : Int64) m)) = 0 then ((m.1 (x0 + 8) (Int32.toNatClampNeg x1)), (dc_wi m (x0 + 8) (Int32.toNatClampNeg x1) x2)) else ((-1 : Int32), m)))
set_option maxHeartbeats 8000000 in
theorem k_X10_delay {u : Nat} {N : Nat} {Φ : (Int32 × dc_M) → Option Value → dc_M → Prop} (x0 : Nat) (x1 : Int32) (x2 : Int32) (m : dc_M) (kR : ∀ (v : Int32) (m : dc_M), Φ ((v, m)) (some (.int v)) m)  {lv : ab_L} (f0 : ab_lk lv 0 = some (.ref x0)) (f1 : ab_lk lv 1 = some (.int x1)) (f2 : ab_lk lv 2 = some (.int x2)) : dc_pv u N ab_M_X10_delay 0 lv [] m (Φ (d_X10_delay x0 x1 x2 m)) := by
  refine dc_pv.mono (dc_ok (C := C_X10_delay) (S := S_X10_delay) CO_X10_delay 400 0 [(0, .ref x0), (1, .int x1), (2, .int x2)] lv [] m (dc_sub_cons f0 (dc_sub_cons f1 (dc_sub_cons f2 (dc_sub_nil)))) ?_) (Nat.le_succ N)
  unfold d_X10_delay
  refine dg_s (pc' := 1) [.ref x0] rfl (fun _ => rfl) rfl ?_
  refine dg_s (pc' := 2) [.int x1, .ref x0] rfl (fun _ => rfl) rfl ?_
  refine dg_s (pc' := 5) [.int (d_X10_isEvent x0 x1 m)] rfl (fun _ => rfl) rfl ?_
  refine dw_if (fun t => Φ t) ((Int32.toInt (d_X10_isEvent x0 x1 m)) = 0) [] 20 8 rfl (fun _ => rfl) (fun c0 => ?_) (fun c0 => ?_)
  · refine dw_g rfl ?_
    refine dg_s (pc' := 21) [.int (-1 : Int32)] rfl (fun _ => rfl) rfl ?_
    exact dw_r (some (.inl (some (.int (-1 : Int32)), m))) rfl (fun _ => rfl) (kR _ _)
  · refine dw_g rfl ?_
    refine dg_s (pc' := 9) [.int x2] rfl (fun _ => rfl) rfl ?_
    refine dg_s (pc' := 10) [.long (Int32.toInt64 x2)] rfl (fun _ => rfl) rfl ?_
    refine dg_s (pc' := 11) [.long (1 : Int64), .long (Int32.toInt64 x2)] rfl (fun _ => rfl) rfl ?_
    refine dg_s (pc' := 14) [.long (20 : Int64), .long (1 : Int64), .long (Int32.toInt64 x2)] rfl (fun _ => rfl) rfl ?_
    refine dg_s (pc' := 17) [.int (d_X10_in (Int32.toInt64 x2) (1 : Int64) (20 : Int64) m)] rfl (fun _ => rfl) rfl ?_
    refine dw_if (fun t => Φ t) (¬ (Int32.toInt (d_X10_in (Int32.toInt64 x2) (1 : Int64) (20 : Int64) m)) = 0) [] 22 20 rfl (fun _ => rfl) (fun c1 => ?_) (fun c1 => ?_)
    · refine dw_g rfl ?_
      refine dg_s (pc' := 23) [.ref x0] rfl (fun _ => rfl) rfl ?_
      refine dg_s (pc' := 26) [.ref (x0 + 8)] rfl (fun _ => rfl) rfl ?_
      refine dg_s (pc' := 27) [.int x1, .ref (x0 + 8)] rfl (fun _ => rfl) rfl ?_
      refine dg_s (pc' := 28) [.int (m.1 (x0 + 8) (Int32.toNatClampNeg x1))] rfl (fun _ => rfl) rfl ?_
      refine dg_L (pc' := 29) [(3, .int (m.1 (x0 + 8) (Int32.toNatClampNeg x1))), (0, .ref x0), (1, .int x1), (2, .int x2)] [] rfl (fun _ => rfl) rfl ?_
      refine dg_s (pc' := 30) [.ref x0] rfl (fun _ => rfl) rfl ?_
      refine dg_s (pc' := 33) [.ref (x0 + 8)] rfl (fun _ => rfl) rfl ?_
      refine dg_s (pc' := 34) [.int x1, .ref (x0 + 8)] rfl (fun _ => rfl) rfl ?_
      refine dg_s (pc' := 35) [.int x2, .int x1, .ref (x0 + 8)] rfl (fun _ => rfl) rfl ?_
      refine dg_m (pc' := 36) (dc_wi m (x0 + 8) (Int32.toNatClampNeg x1) x2) [] rfl (fun _ => rfl) rfl ?_
      refine dg_s (pc' := 37) [.int (m.1 (x0 + 8) (Int32.toNatClampNeg x1))] rfl (fun _ => rfl) rfl ?_
      exact dw_r (some (.inl (some (.int (m.1 (x0 + 8) (Int32.toNatClampNeg x1))), (dc_wi m (x0 + 8) (Int32.toNatClampNeg x1) x2)))) rfl (fun _ => rfl) (kR _ _)
    · refine dw_g rfl ?_
      refine dg_s (pc' := 21) [.int (-1 : Int32)] rfl (fun _ => rfl) rfl ?_
      exact dw_r (some (.inl (some (.int (-1 : Int32)), m))) rfl (fun _ => rfl) (kR _ _)
def H_X10_delay : dc_H := fun As m k => match As with
  | [.ref x0, .int x1, .int x2] => dc_let (d_X10_delay x0 x1 x2 m) (fun q => k (some (.int q.1)) q.2)
  | _ => dc_kz
theorem H_X10_delay_ok {u : Nat} : dc_cok u 211 H_X10_delay := fun M' hG N As m k P hz hP => by
  obtain rfl : ab_M_X10_delay = M' := Option.some.inj hG
  unfold H_X10_delay at hP
  split at hP
  · rename_i x0 x1 x2
    exact dc_pv.imp (k_X10_delay (Φ := fun (t : (Int32 × dc_M)) r m' => P (dc_let t (fun q => k (some (.int q.1)) q.2)) → P (k r m')) x0 x1 x2 m (fun _ _ h => h) rfl rfl rfl) (fun r m' h => h hP)
  · exact absurd hP hz
def C_X3_eventsOf : List (Nat × dc_H) := []
theorem CO_X3_eventsOf {u : Nat} : dc_CO u C_X3_eventsOf := dc_CO_nil
def S_X3_eventsOf : List (Nat × List Nat) := [(4, [0, 1, 2, 3])]
noncomputable def d_X3_eventsOf_l4b (x0 : Nat) (x1 : Int32) (x2 : Int32) (x3 : Int32) (m : dc_M) : Option ((Int32 × Int32) ⊕ Int32) :=
  (if (Int32.toInt (m.1 x0 1)) ≤ (Int32.toInt x3) then some (Sum.inr (x2)) else (if ¬ (Int32.toInt (m.1 (x0 + 3) (Int32.toNatClampNeg x3))) = (Int32.toInt x1) then some (Sum.inl (x2, (x3 + (1 : Int32)))) else some (Sum.inl ((x2 + (1 : Int32)), (x3 + (1 : Int32))))))
noncomputable def d_X3_eventsOf_l4s (x0 : Nat) (x1 : Int32) (m : dc_M) : (Int32 × Int32) → Option ((Int32 × Int32) ⊕ Int32) := fun s => d_X3_eventsOf_l4b x0 x1 s.1 s.2 m
noncomputable def d_X3_eventsOf_l4 (x0 : Nat) (x1 : Int32) (x2 : Int32) (x3 : Int32) (m : dc_M) : Option Int32 := dc_lp (d_X3_eventsOf_l4s x0 x1 m) (x2, x3)
set_option maxHeartbeats 8000000 in
theorem k_X3_eventsOf_l4 {u : Nat} {Φ : (Option Int32) → Option Value → dc_M → Prop} (x0 : Nat) (x1 : Int32) (m : dc_M) (kR : ∀ (v : Int32), Φ (some (v)) (some (.int v)) m) : ∀ (N : Nat), ∀ (x2 : Int32) (x3 : Int32) (lv : ab_L), ab_lk lv 0 = some (.ref x0) → ab_lk lv 1 = some (.int x1) → ab_lk lv 2 = some (.int x2) → ab_lk lv 3 = some (.int x3) → dc_pv u N ab_M_X3_eventsOf 4 lv [] m (Φ (d_X3_eventsOf_l4 x0 x1 x2 x3 m)) := by
  intro N
  induction N with
  | zero => intros; exact dc_pv_zero
  | succ N ih =>
    intro x2 x3 lv f0 f1 f2 f3
    refine dc_ok (C := C_X3_eventsOf) (S := S_X3_eventsOf) CO_X3_eventsOf 400 4 [(0, .ref x0), (1, .int x1), (2, .int x2), (3, .int x3)] lv [] m (dc_sub_cons f0 (dc_sub_cons f1 (dc_sub_cons f2 (dc_sub_cons f3 (dc_sub_nil))))) ?_
    unfold d_X3_eventsOf_l4
    rw [dc_lp_eq]
    show (fun t x => dc_lf u N ab_M_X3_eventsOf (Φ (Option.bind t (dc_bk (d_X3_eventsOf_l4s x0 x1 m)))) x) (d_X3_eventsOf_l4b x0 x1 x2 x3 m) _
    dsimp only
    unfold d_X3_eventsOf_l4b
    refine dg_s (pc' := 5) [.int x3] rfl (fun _ => rfl) rfl ?_
    refine dg_s (pc' := 6) [.ref x0, .int x3] rfl (fun _ => rfl) rfl ?_
    refine dg_s (pc' := 9) [.int (m.1 x0 1), .int x3] rfl (fun _ => rfl) rfl ?_
    refine dw_if (fun t => Φ (Option.bind t (dc_bk (d_X3_eventsOf_l4s x0 x1 m)))) ((Int32.toInt (m.1 x0 1)) ≤ (Int32.toInt x3)) [] 31 12 rfl (fun _ => rfl) (fun c0 => ?_) (fun c0 => ?_)
    · refine dw_g rfl ?_
      refine dg_s (pc' := 32) [.int x2] rfl (fun _ => rfl) rfl ?_
      exact dw_r (some (.inl (some (.int x2), m))) rfl (fun _ => rfl) (kR _)
    · refine dw_g rfl ?_
      refine dg_s (pc' := 13) [.ref x0] rfl (fun _ => rfl) rfl ?_
      refine dg_s (pc' := 16) [.ref (x0 + 3)] rfl (fun _ => rfl) rfl ?_
      refine dg_s (pc' := 17) [.int x3, .ref (x0 + 3)] rfl (fun _ => rfl) rfl ?_
      refine dg_s (pc' := 18) [.int (m.1 (x0 + 3) (Int32.toNatClampNeg x3))] rfl (fun _ => rfl) rfl ?_
      refine dg_s (pc' := 19) [.int x1, .int (m.1 (x0 + 3) (Int32.toNatClampNeg x3))] rfl (fun _ => rfl) rfl ?_
      refine dw_if (fun t => Φ (Option.bind t (dc_bk (d_X3_eventsOf_l4s x0 x1 m)))) (¬ (Int32.toInt (m.1 (x0 + 3) (Int32.toNatClampNeg x3))) = (Int32.toInt x1)) [] 25 22 rfl (fun _ => rfl) (fun c1 => ?_) (fun c1 => ?_)
      · refine dw_g rfl ?_
        refine dg_L (pc' := 28) [(3, .int (x3 + (1 : Int32))), (0, .ref x0), (1, .int x1), (2, .int x2)] [] rfl (fun _ => rfl) rfl ?_
        refine dw_s (pc' := 4) [] rfl (fun _ => rfl) ?_
        exact dw_j rfl (fun lv1 hv => ih x2 (x3 + (1 : Int32)) lv1 (hv.1 _ rfl) (hv.2.1 _ rfl) (hv.2.2.1 _ rfl) (hv.2.2.2.1 _ rfl))
      · refine dw_g rfl ?_
        refine dg_L (pc' := 25) [(2, .int (x2 + (1 : Int32))), (0, .ref x0), (1, .int x1), (3, .int x3)] [] rfl (fun _ => rfl) rfl ?_
        refine dg_L (pc' := 28) [(3, .int (x3 + (1 : Int32))), (2, .int (x2 + (1 : Int32))), (0, .ref x0), (1, .int x1)] [] rfl (fun _ => rfl) rfl ?_
        refine dw_s (pc' := 4) [] rfl (fun _ => rfl) ?_
        exact dw_j rfl (fun lv1 hv => ih (x2 + (1 : Int32)) (x3 + (1 : Int32)) lv1 (hv.1 _ rfl) (hv.2.1 _ rfl) (hv.2.2.1 _ rfl) (hv.2.2.2.1 _ rfl))
noncomputable def d_X3_eventsOf (x0 : Nat) (x1 : Int32) (m : dc_M) : Option Int32 :=
  (d_X3_eventsOf_l4 x0 x1 (0 : Int32) (0 : Int32) m)
set_option maxHeartbeats 8000000 in
theorem k_X3_eventsOf {u : Nat} {N : Nat} {Φ : (Option Int32) → Option Value → dc_M → Prop} (x0 : Nat) (x1 : Int32) (m : dc_M) (kR : ∀ (v : Int32), Φ (some (v)) (some (.int v)) m)  {lv : ab_L} (f0 : ab_lk lv 0 = some (.ref x0)) (f1 : ab_lk lv 1 = some (.int x1)) : dc_pv u N ab_M_X3_eventsOf 0 lv [] m (Φ (d_X3_eventsOf x0 x1 m)) := by
  refine dc_pv.mono (dc_ok (C := C_X3_eventsOf) (S := S_X3_eventsOf) CO_X3_eventsOf 400 0 [(0, .ref x0), (1, .int x1)] lv [] m (dc_sub_cons f0 (dc_sub_cons f1 (dc_sub_nil))) ?_) (Nat.le_succ N)
  unfold d_X3_eventsOf
  refine dg_s (pc' := 1) [.int (0 : Int32)] rfl (fun _ => rfl) rfl ?_
  refine dg_L (pc' := 2) [(2, .int (0 : Int32)), (0, .ref x0), (1, .int x1)] [] rfl (fun _ => rfl) rfl ?_
  refine dg_s (pc' := 3) [.int (0 : Int32)] rfl (fun _ => rfl) rfl ?_
  refine dw_L (pc' := 4) [(3, .int (0 : Int32)), (2, .int (0 : Int32)), (0, .ref x0), (1, .int x1)] [] rfl (fun _ => rfl) ?_
  exact dw_j rfl (fun lv1 hv => k_X3_eventsOf_l4 (Φ := (fun t => Φ t)) x0 x1 m (fun _a  => kR _a) N  (0 : Int32) (0 : Int32) lv1 (hv.1 _ rfl) (hv.2.1 _ rfl) (hv.2.2.1 _ rfl) (hv.2.2.2.1 _ rfl))
noncomputable def H_X3_eventsOf : dc_H := fun As m k => match As with
  | [.ref x0, .int x1] => (d_X3_eventsOf x0 x1 m).bind (fun q => k (some (.int q)) m)
  | _ => dc_kz
theorem H_X3_eventsOf_ok {u : Nat} : dc_cok u 30 H_X3_eventsOf := fun M' hG N As m k P hz hP => by
  obtain rfl : ab_M_X3_eventsOf = M' := Option.some.inj hG
  unfold H_X3_eventsOf at hP
  split at hP
  · rename_i x0 x1
    exact dc_pv.imp (k_X3_eventsOf (Φ := fun (t : Option Int32) r m' => P (t.bind (fun q => k (some (.int q)) m)) → P (k r m')) x0 x1 m (fun _  h => h) rfl rfl) (fun r m' h => h hP)
  · exact absurd hP hz
noncomputable def C_X9_wire : List (Nat × dc_H) := [(30, H_X3_eventsOf), (25, H_X3_hasWire)]
theorem CO_X9_wire {u : Nat} : dc_CO u C_X9_wire := dc_CO_cons H_X3_eventsOf_ok (dc_CO_cons H_X3_hasWire_ok (dc_CO_nil))
def S_X9_wire : List (Nat × List Nat) := []
noncomputable def d_X9_wire (x0 : Nat) (x1 : Int32) (x2 : Int32) (m : dc_M) : Option Int32 :=
  (if ¬ (Int32.toInt (d_X3_hasWire (m.2.2.1 x0 7) x1 m)) = 0 then (if (Int32.toInt x2) = 0 then some ((m.1 ((m.2.2.1 x0 7) + 1) (Int32.toNatClampNeg x1))) else (if (Int32.toInt x2) = 1 then some ((m.1 ((m.2.2.1 x0 7) + 2) (Int32.toNatClampNeg x1))) else (if (Int32.toInt x2) = 2 then ((d_X3_eventsOf (m.2.2.1 x0 7) x1 m).bind (fun q1 => some (q1))) else some ((-1 : Int32))))) else some ((-1 : Int32)))
set_option maxHeartbeats 8000000 in
theorem k_X9_wire {u : Nat} {N : Nat} {Φ : (Option Int32) → Option Value → dc_M → Prop} (x0 : Nat) (x1 : Int32) (x2 : Int32) (m : dc_M) (kR : ∀ (v : Int32), Φ (some (v)) (some (.int v)) m)  {lv : ab_L} (f0 : ab_lk lv 0 = some (.ref x0)) (f1 : ab_lk lv 1 = some (.int x1)) (f2 : ab_lk lv 2 = some (.int x2)) : dc_pv u N ab_M_X9_wire 0 lv [] m (Φ (d_X9_wire x0 x1 x2 m)) := by
  refine dc_pv.mono (dc_ok (C := C_X9_wire) (S := S_X9_wire) CO_X9_wire 400 0 [(0, .ref x0), (1, .int x1), (2, .int x2)] lv [] m (dc_sub_cons f0 (dc_sub_cons f1 (dc_sub_cons f2 (dc_sub_nil)))) ?_) (Nat.le_succ N)
  unfold d_X9_wire
  refine dg_s (pc' := 1) [.ref x0] rfl (fun _ => rfl) rfl ?_
  refine dg_s (pc' := 4) [.ref (m.2.2.1 x0 7)] rfl (fun _ => rfl) rfl ?_
  refine dg_s (pc' := 5) [.int x1, .ref (m.2.2.1 x0 7)] rfl (fun _ => rfl) rfl ?_
  refine dg_s (pc' := 8) [.int (d_X3_hasWire (m.2.2.1 x0 7) x1 m)] rfl (fun _ => rfl) rfl ?_
  refine dw_if (fun t => Φ t) (¬ (Int32.toInt (d_X3_hasWire (m.2.2.1 x0 7) x1 m)) = 0) [] 13 11 rfl (fun _ => rfl) (fun c0 => ?_) (fun c0 => ?_)
  · refine dw_g rfl ?_
    refine dg_s (pc' := 14) [.int x2] rfl (fun _ => rfl) rfl ?_
    refine dw_sw (fun t => Φ t) ((Int32.toInt x2)) 69 [(0, 40), (1, 50), (2, 60)] [] rfl (fun _ => rfl) ?_
    refine dw_ts (fun t => Φ t) (fun c1 => ?_) (fun c1 => ?_)
    · refine dw_g rfl ?_
      refine dg_s (pc' := 41) [.ref x0] rfl (fun _ => rfl) rfl ?_
      refine dg_s (pc' := 44) [.ref (m.2.2.1 x0 7)] rfl (fun _ => rfl) rfl ?_
      refine dg_s (pc' := 47) [.ref ((m.2.2.1 x0 7) + 1)] rfl (fun _ => rfl) rfl ?_
      refine dg_s (pc' := 48) [.int x1, .ref ((m.2.2.1 x0 7) + 1)] rfl (fun _ => rfl) rfl ?_
      refine dg_s (pc' := 49) [.int (m.1 ((m.2.2.1 x0 7) + 1) (Int32.toNatClampNeg x1))] rfl (fun _ => rfl) rfl ?_
      exact dw_r (some (.inl (some (.int (m.1 ((m.2.2.1 x0 7) + 1) (Int32.toNatClampNeg x1))), m))) rfl (fun _ => rfl) (kR _)
    refine dw_ts (fun t => Φ t) (fun c2 => ?_) (fun c2 => ?_)
    · refine dw_g rfl ?_
      refine dg_s (pc' := 51) [.ref x0] rfl (fun _ => rfl) rfl ?_
      refine dg_s (pc' := 54) [.ref (m.2.2.1 x0 7)] rfl (fun _ => rfl) rfl ?_
      refine dg_s (pc' := 57) [.ref ((m.2.2.1 x0 7) + 2)] rfl (fun _ => rfl) rfl ?_
      refine dg_s (pc' := 58) [.int x1, .ref ((m.2.2.1 x0 7) + 2)] rfl (fun _ => rfl) rfl ?_
      refine dg_s (pc' := 59) [.int (m.1 ((m.2.2.1 x0 7) + 2) (Int32.toNatClampNeg x1))] rfl (fun _ => rfl) rfl ?_
      exact dw_r (some (.inl (some (.int (m.1 ((m.2.2.1 x0 7) + 2) (Int32.toNatClampNeg x1))), m))) rfl (fun _ => rfl) (kR _)
    refine dw_ts (fun t => Φ t) (fun c3 => ?_) (fun c3 => ?_)
    · refine dw_g rfl ?_
      refine dg_s (pc' := 61) [.ref x0] rfl (fun _ => rfl) rfl ?_
      refine dg_s (pc' := 64) [.ref (m.2.2.1 x0 7)] rfl (fun _ => rfl) rfl ?_
      refine dg_s (pc' := 65) [.int x1, .ref (m.2.2.1 x0 7)] rfl (fun _ => rfl) rfl ?_
      refine dw_b (fun t => Φ t) (pc' := 68) (fun q1 => [.int q1]) (fun q1 => m) rfl (fun _ => rfl) (fun q1 => ?_)
      refine dw_g rfl ?_
      exact dw_r (some (.inl (some (.int q1), m))) rfl (fun _ => rfl) (kR _)
    refine dw_t0 ?_
    refine dw_g rfl ?_
    refine dg_s (pc' := 70) [.int (-1 : Int32)] rfl (fun _ => rfl) rfl ?_
    exact dw_r (some (.inl (some (.int (-1 : Int32)), m))) rfl (fun _ => rfl) (kR _)
  · refine dw_g rfl ?_
    refine dg_s (pc' := 12) [.int (-1 : Int32)] rfl (fun _ => rfl) rfl ?_
    exact dw_r (some (.inl (some (.int (-1 : Int32)), m))) rfl (fun _ => rfl) (kR _)
noncomputable def H_X9_wire : dc_H := fun As m k => match As with
  | [.ref x0, .int x1, .int x2] => (d_X9_wire x0 x1 x2 m).bind (fun q => k (some (.int q)) m)
  | _ => dc_kz
theorem H_X9_wire_ok {u : Nat} : dc_cok u 105 H_X9_wire := fun M' hG N As m k P hz hP => by
  obtain rfl : ab_M_X9_wire = M' := Option.some.inj hG
  unfold H_X9_wire at hP
  split at hP
  · rename_i x0 x1 x2
    exact dc_pv.imp (k_X9_wire (Φ := fun (t : Option Int32) r m' => P (t.bind (fun q => k (some (.int q)) m)) → P (k r m')) x0 x1 x2 m (fun _  h => h) rfl rfl rfl) (fun r m' h => h hP)
  · exact absurd hP hz
def C_X10_wire : List (Nat × dc_H) := [(162, H_X10_isWire)]
theorem CO_X10_wire {u : Nat} : dc_CO u C_X10_wire := dc_CO_cons H_X10_isWire_ok (dc_CO_nil)
def S_X10_wire : List (Nat × List Nat) := [(15, [0, 1, 2, 3, 4]), (49, [0, 1, 2, 3])]
noncomputable def d_X10_wire_b49 (x0 : Nat) (x1 : Int32) (x2 : Int32) (x3 : Int32) (m : dc_M) : Option Int32 :=
  (if ¬ (Int32.toInt x2) = 0 then (if ¬ (Int32.toInt x2) = 1 then (if ¬ (Int32.toInt x2) = 2 then some ((-1 : Int32)) else some (x3)) else some ((m.1 (x0 + 2) (Int32.toNatClampNeg x1)))) else some ((m.1 (x0 + 1) (Int32.toNatClampNeg x1))))
set_option maxHeartbeats 8000000 in
theorem k_X10_wire_b49 {u : Nat} {N : Nat} {Φ : (Option Int32) → Option Value → dc_M → Prop} (x0 : Nat) (x1 : Int32) (x2 : Int32) (x3 : Int32) (m : dc_M) (kR : ∀ (v : Int32), Φ (some (v)) (some (.int v)) m)  {lv : ab_L} (f0 : ab_lk lv 0 = some (.ref x0)) (f1 : ab_lk lv 1 = some (.int x1)) (f2 : ab_lk lv 2 = some (.int x2)) (f3 : ab_lk lv 3 = some (.int x3)) : dc_pv u N ab_M_X10_wire 49 lv [] m (Φ (d_X10_wire_b49 x0 x1 x2 x3 m)) := by
  refine dc_pv.mono (dc_ok (C := C_X10_wire) (S := S_X10_wire) CO_X10_wire 400 49 [(0, .ref x0), (1, .int x1), (2, .int x2), (3, .int x3)] lv [] m (dc_sub_cons f0 (dc_sub_cons f1 (dc_sub_cons f2 (dc_sub_cons f3 (dc_sub_nil))))) ?_) (Nat.le_succ N)
  unfold d_X10_wire_b49
  refine dg_s (pc' := 50) [.int x2] rfl (fun _ => rfl) rfl ?_
  refine dw_if (fun t => Φ t) (¬ (Int32.toInt x2) = 0) [] 62 53 rfl (fun _ => rfl) (fun c0 => ?_) (fun c0 => ?_)
  · refine dw_g rfl ?_
    refine dg_s (pc' := 63) [.int x2] rfl (fun _ => rfl) rfl ?_
    refine dg_s (pc' := 64) [.int (1 : Int32), .int x2] rfl (fun _ => rfl) rfl ?_
    refine dw_if (fun t => Φ t) (¬ (Int32.toInt x2) = 1) [] 76 67 rfl (fun _ => rfl) (fun c1 => ?_) (fun c1 => ?_)
    · refine dw_g rfl ?_
      refine dg_s (pc' := 77) [.int x2] rfl (fun _ => rfl) rfl ?_
      refine dg_s (pc' := 78) [.int (2 : Int32), .int x2] rfl (fun _ => rfl) rfl ?_
      refine dw_if (fun t => Φ t) (¬ (Int32.toInt x2) = 2) [] 85 81 rfl (fun _ => rfl) (fun c2 => ?_) (fun c2 => ?_)
      · refine dw_g rfl ?_
        refine dg_s (pc' := 86) [.int (-1 : Int32)] rfl (fun _ => rfl) rfl ?_
        exact dw_r (some (.inl (some (.int (-1 : Int32)), m))) rfl (fun _ => rfl) (kR _)
      · refine dw_g rfl ?_
        refine dg_s (pc' := 82) [.int x3] rfl (fun _ => rfl) rfl ?_
        refine dg_s (pc' := 86) [.int x3] rfl (fun _ => rfl) rfl ?_
        exact dw_r (some (.inl (some (.int x3), m))) rfl (fun _ => rfl) (kR _)
    · refine dw_g rfl ?_
      refine dg_s (pc' := 68) [.ref x0] rfl (fun _ => rfl) rfl ?_
      refine dg_s (pc' := 71) [.ref (x0 + 2)] rfl (fun _ => rfl) rfl ?_
      refine dg_s (pc' := 72) [.int x1, .ref (x0 + 2)] rfl (fun _ => rfl) rfl ?_
      refine dg_s (pc' := 73) [.int (m.1 (x0 + 2) (Int32.toNatClampNeg x1))] rfl (fun _ => rfl) rfl ?_
      refine dg_s (pc' := 86) [.int (m.1 (x0 + 2) (Int32.toNatClampNeg x1))] rfl (fun _ => rfl) rfl ?_
      exact dw_r (some (.inl (some (.int (m.1 (x0 + 2) (Int32.toNatClampNeg x1))), m))) rfl (fun _ => rfl) (kR _)
  · refine dw_g rfl ?_
    refine dg_s (pc' := 54) [.ref x0] rfl (fun _ => rfl) rfl ?_
    refine dg_s (pc' := 57) [.ref (x0 + 1)] rfl (fun _ => rfl) rfl ?_
    refine dg_s (pc' := 58) [.int x1, .ref (x0 + 1)] rfl (fun _ => rfl) rfl ?_
    refine dg_s (pc' := 59) [.int (m.1 (x0 + 1) (Int32.toNatClampNeg x1))] rfl (fun _ => rfl) rfl ?_
    refine dg_s (pc' := 86) [.int (m.1 (x0 + 1) (Int32.toNatClampNeg x1))] rfl (fun _ => rfl) rfl ?_
    exact dw_r (some (.inl (some (.int (m.1 (x0 + 1) (Int32.toNatClampNeg x1))), m))) rfl (fun _ => rfl) (kR _)
noncomputable def d_X10_wire_l15b (x0 : Nat) (x1 : Int32) (x2 : Int32) (x3 : Int32) (x4 : Int32) (m : dc_M) : Option ((Int32 × Int32) ⊕ Int32) :=
  (if (Int32.toInt (m.1 x0 3)) ≤ (Int32.toInt x4) then ((d_X10_wire_b49 x0 x1 x2 x3 m).map (fun z => Sum.inr (z))) else (if ¬ (Int32.toInt (m.1 (x0 + 3) (Int32.toNatClampNeg x4))) = (Int32.toInt x1) then some (Sum.inl ((x3 + (0 : Int32)), (x4 + (1 : Int32)))) else some (Sum.inl ((x3 + (1 : Int32)), (x4 + (1 : Int32))))))
noncomputable def d_X10_wire_l15s (x0 : Nat) (x1 : Int32) (x2 : Int32) (m : dc_M) : (Int32 × Int32) → Option ((Int32 × Int32) ⊕ Int32) := fun s => d_X10_wire_l15b x0 x1 x2 s.1 s.2 m
noncomputable def d_X10_wire_l15 (x0 : Nat) (x1 : Int32) (x2 : Int32) (x3 : Int32) (x4 : Int32) (m : dc_M) : Option Int32 := dc_lp (d_X10_wire_l15s x0 x1 x2 m) (x3, x4)
set_option maxHeartbeats 8000000 in
theorem k_X10_wire_l15 {u : Nat} {Φ : (Option Int32) → Option Value → dc_M → Prop} (x0 : Nat) (x1 : Int32) (x2 : Int32) (m : dc_M) (kR : ∀ (v : Int32), Φ (some (v)) (some (.int v)) m) : ∀ (N : Nat), ∀ (x3 : Int32) (x4 : Int32) (lv : ab_L), ab_lk lv 0 = some (.ref x0) → ab_lk lv 1 = some (.int x1) → ab_lk lv 2 = some (.int x2) → ab_lk lv 3 = some (.int x3) → ab_lk lv 4 = some (.int x4) → dc_pv u N ab_M_X10_wire 15 lv [] m (Φ (d_X10_wire_l15 x0 x1 x2 x3 x4 m)) := by
  intro N
  induction N with
  | zero => intros; exact dc_pv_zero
  | succ N ih =>
    intro x3 x4 lv f0 f1 f2 f3 f4
    refine dc_ok (C := C_X10_wire) (S := S_X10_wire) CO_X10_wire 400 15 [(0, .ref x0), (1, .int x1), (2, .int x2), (3, .int x3), (4, .int x4)] lv [] m (dc_sub_cons f0 (dc_sub_cons f1 (dc_sub_cons f2 (dc_sub_cons f3 (dc_sub_cons f4 (dc_sub_nil)))))) ?_
    unfold d_X10_wire_l15
    rw [dc_lp_eq]
    show (fun t x => dc_lf u N ab_M_X10_wire (Φ (Option.bind t (dc_bk (d_X10_wire_l15s x0 x1 x2 m)))) x) (d_X10_wire_l15b x0 x1 x2 x3 x4 m) _
    dsimp only
    unfold d_X10_wire_l15b
    refine dg_s (pc' := 17) [.int x4] rfl (fun _ => rfl) rfl ?_
    refine dg_s (pc' := 18) [.ref x0, .int x4] rfl (fun _ => rfl) rfl ?_
    refine dg_s (pc' := 21) [.int (m.1 x0 3), .int x4] rfl (fun _ => rfl) rfl ?_
    refine dw_if (fun t => Φ (Option.bind t (dc_bk (d_X10_wire_l15s x0 x1 x2 m)))) ((Int32.toInt (m.1 x0 3)) ≤ (Int32.toInt x4)) [] 49 24 rfl (fun _ => rfl) (fun c0 => ?_) (fun c0 => ?_)
    · exact dw_j rfl (fun lv1 hv => k_X10_wire_b49 (Φ := (fun t => Φ (Option.bind (t.map (fun z => Sum.inr (z))) (dc_bk (d_X10_wire_l15s x0 x1 x2 m))))) x0 x1 x2 x3 m (fun _a  => kR _a)  (hv.1 _ rfl) (hv.2.1 _ rfl) (hv.2.2.1 _ rfl) (hv.2.2.2.1 _ rfl))
    · refine dw_g rfl ?_
      refine dg_s (pc' := 25) [.int x3] rfl (fun _ => rfl) rfl ?_
      refine dg_s (pc' := 26) [.ref x0, .int x3] rfl (fun _ => rfl) rfl ?_
      refine dg_s (pc' := 29) [.ref (x0 + 3), .int x3] rfl (fun _ => rfl) rfl ?_
      refine dg_s (pc' := 31) [.int x4, .ref (x0 + 3), .int x3] rfl (fun _ => rfl) rfl ?_
      refine dg_s (pc' := 32) [.int (m.1 (x0 + 3) (Int32.toNatClampNeg x4)), .int x3] rfl (fun _ => rfl) rfl ?_
      refine dg_s (pc' := 33) [.int x1, .int (m.1 (x0 + 3) (Int32.toNatClampNeg x4)), .int x3] rfl (fun _ => rfl) rfl ?_
      refine dw_if (fun t => Φ (Option.bind t (dc_bk (d_X10_wire_l15s x0 x1 x2 m)))) (¬ (Int32.toInt (m.1 (x0 + 3) (Int32.toNatClampNeg x4))) = (Int32.toInt x1)) [.int x3] 40 36 rfl (fun _ => rfl) (fun c1 => ?_) (fun c1 => ?_)
      · refine dw_g rfl ?_
        refine dg_s (pc' := 41) [.int (0 : Int32), .int x3] rfl (fun _ => rfl) rfl ?_
        refine dg_s (pc' := 42) [.int (x3 + (0 : Int32))] rfl (fun _ => rfl) rfl ?_
        refine dg_L (pc' := 43) [(3, .int (x3 + (0 : Int32))), (0, .ref x0), (1, .int x1), (2, .int x2), (4, .int x4)] [] rfl (fun _ => rfl) rfl ?_
        refine dg_L (pc' := 46) [(4, .int (x4 + (1 : Int32))), (3, .int (x3 + (0 : Int32))), (0, .ref x0), (1, .int x1), (2, .int x2)] [] rfl (fun _ => rfl) rfl ?_
        refine dw_s (pc' := 15) [] rfl (fun _ => rfl) ?_
        exact dw_j rfl (fun lv1 hv => ih (x3 + (0 : Int32)) (x4 + (1 : Int32)) lv1 (hv.1 _ rfl) (hv.2.1 _ rfl) (hv.2.2.1 _ rfl) (hv.2.2.2.1 _ rfl) (hv.2.2.2.2.1 _ rfl))
      · refine dw_g rfl ?_
        refine dg_s (pc' := 37) [.int (1 : Int32), .int x3] rfl (fun _ => rfl) rfl ?_
        refine dg_s (pc' := 41) [.int (1 : Int32), .int x3] rfl (fun _ => rfl) rfl ?_
        refine dg_s (pc' := 42) [.int (x3 + (1 : Int32))] rfl (fun _ => rfl) rfl ?_
        refine dg_L (pc' := 43) [(3, .int (x3 + (1 : Int32))), (0, .ref x0), (1, .int x1), (2, .int x2), (4, .int x4)] [] rfl (fun _ => rfl) rfl ?_
        refine dg_L (pc' := 46) [(4, .int (x4 + (1 : Int32))), (3, .int (x3 + (1 : Int32))), (0, .ref x0), (1, .int x1), (2, .int x2)] [] rfl (fun _ => rfl) rfl ?_
        refine dw_s (pc' := 15) [] rfl (fun _ => rfl) ?_
        exact dw_j rfl (fun lv1 hv => ih (x3 + (1 : Int32)) (x4 + (1 : Int32)) lv1 (hv.1 _ rfl) (hv.2.1 _ rfl) (hv.2.2.1 _ rfl) (hv.2.2.2.1 _ rfl) (hv.2.2.2.2.1 _ rfl))
noncomputable def d_X10_wire (x0 : Nat) (x1 : Int32) (x2 : Int32) (m : dc_M) : Option Int32 :=
  (if ¬ (Int32.toInt (d_X10_isWire x0 x1 m)) = 0 then (d_X10_wire_l15 x0 x1 x2 (0 : Int32) (0 : Int32) m) else some ((-1 : Int32)))
set_option maxHeartbeats 8000000 in
theorem k_X10_wire {u : Nat} {N : Nat} {Φ : (Option Int32) → Option Value → dc_M → Prop} (x0 : Nat) (x1 : Int32) (x2 : Int32) (m : dc_M) (kR : ∀ (v : Int32), Φ (some (v)) (some (.int v)) m)  {lv : ab_L} (f0 : ab_lk lv 0 = some (.ref x0)) (f1 : ab_lk lv 1 = some (.int x1)) (f2 : ab_lk lv 2 = some (.int x2)) : dc_pv u N ab_M_X10_wire 0 lv [] m (Φ (d_X10_wire x0 x1 x2 m)) := by
  refine dc_pv.mono (dc_ok (C := C_X10_wire) (S := S_X10_wire) CO_X10_wire 400 0 [(0, .ref x0), (1, .int x1), (2, .int x2)] lv [] m (dc_sub_cons f0 (dc_sub_cons f1 (dc_sub_cons f2 (dc_sub_nil)))) ?_) (Nat.le_succ N)
  unfold d_X10_wire
  refine dg_s (pc' := 1) [.ref x0] rfl (fun _ => rfl) rfl ?_
  refine dg_s (pc' := 2) [.int x1, .ref x0] rfl (fun _ => rfl) rfl ?_
  refine dg_s (pc' := 5) [.int (d_X10_isWire x0 x1 m)] rfl (fun _ => rfl) rfl ?_
  refine dw_if (fun t => Φ t) (¬ (Int32.toInt (d_X10_isWire x0 x1 m)) = 0) [] 10 8 rfl (fun _ => rfl) (fun c0 => ?_) (fun c0 => ?_)
  · refine dw_g rfl ?_
    refine dg_s (pc' := 11) [.int (0 : Int32)] rfl (fun _ => rfl) rfl ?_
    refine dg_L (pc' := 12) [(3, .int (0 : Int32)), (0, .ref x0), (1, .int x1), (2, .int x2)] [] rfl (fun _ => rfl) rfl ?_
    refine dg_s (pc' := 13) [.int (0 : Int32)] rfl (fun _ => rfl) rfl ?_
    refine dw_L (pc' := 15) [(4, .int (0 : Int32)), (3, .int (0 : Int32)), (0, .ref x0), (1, .int x1), (2, .int x2)] [] rfl (fun _ => rfl) ?_
    exact dw_j rfl (fun lv1 hv => k_X10_wire_l15 (Φ := (fun t => Φ t)) x0 x1 x2 m (fun _a  => kR _a) N  (0 : Int32) (0 : Int32) lv1 (hv.1 _ rfl) (hv.2.1 _ rfl) (hv.2.2.1 _ rfl) (hv.2.2.2.1 _ rfl) (hv.2.2.2.2.1 _ rfl))
  · refine dw_g rfl ?_
    refine dg_s (pc' := 9) [.int (-1 : Int32)] rfl (fun _ => rfl) rfl ?_
    exact dw_r (some (.inl (some (.int (-1 : Int32)), m))) rfl (fun _ => rfl) (kR _)
noncomputable def H_X10_wire : dc_H := fun As m k => match As with
  | [.ref x0, .int x1, .int x2] => (d_X10_wire x0 x1 x2 m).bind (fun q => k (some (.int q)) m)
  | _ => dc_kz
theorem H_X10_wire_ok {u : Nat} : dc_cok u 164 H_X10_wire := fun M' hG N As m k P hz hP => by
  obtain rfl : ab_M_X10_wire = M' := Option.some.inj hG
  unfold H_X10_wire at hP
  split at hP
  · rename_i x0 x1 x2
    exact dc_pv.imp (k_X10_wire (Φ := fun (t : Option Int32) r m' => P (t.bind (fun q => k (some (.int q)) m)) → P (k r m')) x0 x1 x2 m (fun _  h => h) rfl rfl rfl) (fun r m' h => h hP)
  · exact absurd hP hz
