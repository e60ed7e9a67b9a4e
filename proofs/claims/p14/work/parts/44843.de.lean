/-! ===== methods as functions (written by a program) ===== -/
noncomputable def C_X10_text : List (Nat × dc_H) := [(221, H_X10_begin), (152, H_X10_next), (159, H_X10_readLine)]
theorem CO_X10_text {u : Nat} : dc_CO u C_X10_text := dc_CO_cons H_X10_begin_ok (dc_CO_cons H_X10_next_ok (dc_CO_cons H_X10_readLine_ok (dc_CO_nil)))
def S_X10_text : List (Nat × List Nat) := [(34, [0]), (55, [0]), (117, [0, 1]), (155, [0, 1])]
noncomputable def d_X10_text_l155b (x0 : Nat) (x1 : Int32) (m : dc_M) : Option ((Int32 × dc_M) ⊕ (Int32 × dc_M)) :=
  (if 16 ≤ (Int32.toInt x1) then (dc_let (d_X10_begin x0 m) (fun q1 => some (Sum.inr (((q1.1 x0 10), q1))))) else some (Sum.inl ((x1 + (1 : Int32)), (dc_wi (dc_wi (dc_wi (dc_wi (dc_wi (dc_wi m (x0 + 3) (Int32.toNatClampNeg x1) (m.1 (x0 + 12) (Int32.toNatClampNeg x1))) (x0 + 4) (Int32.toNatClampNeg x1) ((dc_wi m (x0 + 3) (Int32.toNatClampNeg x1) (m.1 (x0 + 12) (Int32.toNatClampNeg x1))).1 (x0 + 13) (Int32.toNatClampNeg x1))) (x0 + 5) (Int32.toNatClampNeg x1) ((dc_wi (dc_wi m (x0 + 3) (Int32.toNatClampNeg x1) (m.1 (x0 + 12) (Int32.toNatClampNeg x1))) (x0 + 4) (Int32.toNatClampNeg x1) ((dc_wi m (x0 + 3) (Int32.toNatClampNeg x1) (m.1 (x0 + 12) (Int32.toNatClampNeg x1))).1 (x0 + 13) (Int32.toNatClampNeg x1))).1 (x0 + 14) (Int32.toNatClampNeg x1))) (x0 + 6) (Int32.toNatClampNeg x1) ((dc_wi (dc_wi (dc_wi m (x0 + 3) (Int32.toNatClampNeg x1) (m.1 (x0 + 12) (Int32.toNatClampNeg x1))) (x0 + 4) (Int32.toNatClampNeg x1) ((dc_wi m (x0 + 3) (Int32.toNatClampNeg x1) (m.1 (x0 + 12) (Int32.toNatClampNeg x1))).1 (x0 + 13) (Int32.toNatClampNeg x1))) (x0 + 5) (Int32.toNatClampNeg x1) ((dc_wi (dc_wi m (x0 + 3) (Int32.toNatClampNeg x1) (m.1 (x0 + 12) (Int32.toNatClampNeg x1))) (x0 + 4) (Int32.toNatClampNeg x1) ((dc_wi m (x0 + 3) (Int32.toNatClampNeg x1) (m.1 (x0 + 12) (Int32.toNatClampNeg x1))).1 (x0 + 13) (Int32.toNatClampNeg x1))).1 (x0 + 14) (Int32.toNatClampNeg x1))).1 (x0 + 15) (Int32.toNatClampNeg x1))) (x0 + 7) (Int32.toNatClampNeg x1) ((dc_wi (dc_wi (dc_wi (dc_wi m (x0 + 3) (Int32.toNatClampNeg x1) (m.1 (x0 + 12) (Int32.toNatClampNeg x1))) (x0 + 4) (Int32.toNatClampNeg x1) ((dc_wi m (x0 + 3) (Int32.toNatClampNeg x1) (m.1 (x0 + 12) (Int32.toNatClampNeg x1))).1 (x0 + 13) (Int32.toNatClampNeg x1))) (x0 + 5) (Int32.toNatClampNeg x1) ((dc_wi (dc_wi m (x0 + 3) (Int32.toNatClampNeg x1) (m.1 (x0 + 12) (Int32.toNatClampNeg x1))) (x0 + 4) (Int32.toNatClampNeg x1) ((dc_wi m (x0 + 3) (Int32.toNatClampNeg x1) (m.1 (x0 + 12) (Int32.toNatClampNeg x1))).1 (x0 + 13) (Int32.toNatClampNeg x1))).1 (x0 + 14) (Int32.toNatClampNeg x1))) (x0 + 6) (Int32.toNatClampNeg x1) ((dc_wi (dc_wi (dc_wi m (x0 + 3) (Int32.toNatClampNeg x1) (m.1 (x0 + 12) (Int32.toNatClampNeg x1))) (x0 + 4) (Int32.toNatClampNeg x1) ((dc_wi m (x0 + 3) (Int32.toNatClampNeg x1) (m.1 (x0 + 12) (Int32.toNatClampNeg x1))).1 (x0 + 13) (Int32.toNatClampNeg x1))) (x0 + 5) (Int32.toNatClampNeg x1) ((dc_wi (dc_wi m (x0 + 3) (Int32.toNatClampNeg x1) (m.1 (x0 + 12) (Int32.toNatClampNeg x1))) (x0 + 4) (Int32.toNatClampNeg x1) ((dc_wi m (x0 + 3) (Int32.toNatClampNeg x1) (m.1 (x0 + 12) (Int32.toNatClampNeg x1))).1 (x0 + 13) (Int32.toNatClampNeg x1))).1 (x0 + 14) (Int32.toNatClampNeg x1))).1 (x0 + 15) (Int32.toNatClampNeg x1))).1 (x0 + 16) (Int32.toNatClampNeg x1))) (x0 + 8) (Int32.toNatClampNeg x1) (1 : Int32)))))
noncomputable def d_X10_text_l155s (x0 : Nat) : (Int32 × dc_M) → Option ((Int32 × dc_M) ⊕ (Int32 × dc_M)) := fun s => d_X10_text_l155b x0 s.1 s.2
noncomputable def d_X10_text_l155 (x0 : Nat) (x1 : Int32) (m : dc_M) : Option (Int32 × dc_M) := dc_lp (d_X10_text_l155s x0) (x1, m)
set_option maxHeartbeats 8000000 in
theorem k_X10_text_l155 {u : Nat} {Φ : (Option (Int32 × dc_M)) → Option Value → dc_M → Prop} (x0 : Nat) (kR : ∀ (v : Int32) (m : dc_M), Φ (some ((v, m))) (some (.int v)) m) : ∀ (N : Nat), ∀ (x1 : Int32) (m : dc_M) (lv : ab_L), ab_lk lv 0 = some (.ref x0) → ab_lk lv 1 = some (.int x1) → dc_pv u N ab_M_X10_text 155 lv [] m (Φ (d_X10_text_l155 x0 x1 m)) := by
  intro N
  induction N with
  | zero => intros; exact dc_pv_zero
  | succ N ih =>
    intro x1 m lv f0 f1
    refine dc_ok (C := C_X10_text) (S := S_X10_text) CO_X10_text 400 155 [(0, .ref x0), (1, .int x1)] lv [] m (dc_sub_cons f0 (dc_sub_cons f1 (dc_sub_nil))) ?_
    unfold d_X10_text_l155
    rw [dc_lp_eq]
    show (fun t x => dc_lf u N ab_M_X10_text (Φ (Option.bind t (dc_bk (d_X10_text_l155s x0)))) x) (d_X10_text_l155b x0 x1 m) _
    dsimp only
    unfold d_X10_text_l155b
    refine dg_s (pc' := 156) [.int x1] rfl (fun _ => rfl) rfl ?_
    refine dg_s (pc' := 158) [.int (16 : Int32), .int x1] rfl (fun _ => rfl) rfl ?_
    refine dw_if (fun t => Φ (Option.bind t (dc_bk (d_X10_text_l155s x0)))) (16 ≤ (Int32.toInt x1)) [] 234 161 rfl (fun _ => rfl) (fun c0 => ?_) (fun c0 => ?_)
    · refine dw_g rfl ?_
      refine dg_s (pc' := 235) [.ref x0] rfl (fun _ => rfl) rfl ?_
      refine dw_l (fun t => Φ (Option.bind t (dc_bk (d_X10_text_l155s x0)))) (pc' := 238) (fun q1 => []) (fun q1 => q1) rfl (fun _ => rfl) (fun q1 => ?_)
      refine dw_g rfl ?_
      refine dg_s (pc' := 239) [.ref x0] rfl (fun _ => rfl) rfl ?_
      refine dg_s (pc' := 242) [.int (q1.1 x0 10)] rfl (fun _ => rfl) rfl ?_
      exact dw_r (some (.inl (some (.int (q1.1 x0 10)), q1))) rfl (fun _ => rfl) (kR _ _)
    · refine dw_g rfl ?_
      refine dg_s (pc' := 162) [.ref x0] rfl (fun _ => rfl) rfl ?_
      refine dg_s (pc' := 165) [.ref (x0 + 3)] rfl (fun _ => rfl) rfl ?_
      refine dg_s (pc' := 166) [.int x1, .ref (x0 + 3)] rfl (fun _ => rfl) rfl ?_
      refine dg_s (pc' := 167) [.ref x0, .int x1, .ref (x0 + 3)] rfl (fun _ => rfl) rfl ?_
      refine dg_s (pc' := 170) [.ref (x0 + 12), .int x1, .ref (x0 + 3)] rfl (fun _ => rfl) rfl ?_
      refine dg_s (pc' := 171) [.int x1, .ref (x0 + 12), .int x1, .ref (x0 + 3)] rfl (fun _ => rfl) rfl ?_
      refine dg_s (pc' := 172) [.int (m.1 (x0 + 12) (Int32.toNatClampNeg x1)), .int x1, .ref (x0 + 3)] rfl (fun _ => rfl) rfl ?_
      refine dg_m (pc' := 173) (dc_wi m (x0 + 3) (Int32.toNatClampNeg x1) (m.1 (x0 + 12) (Int32.toNatClampNeg x1))) [] rfl (fun _ => rfl) rfl ?_
      refine dg_s (pc' := 174) [.ref x0] rfl (fun _ => rfl) rfl ?_
      refine dg_s (pc' := 177) [.ref (x0 + 4)] rfl (fun _ => rfl) rfl ?_
      refine dg_s (pc' := 178) [.int x1, .ref (x0 + 4)] rfl (fun _ => rfl) rfl ?_
      refine dg_s (pc' := 179) [.ref x0, .int x1, .ref (x0 + 4)] rfl (fun _ => rfl) rfl ?_
      refine dg_s (pc' := 182) [.ref (x0 + 13), .int x1, .ref (x0 + 4)] rfl (fun _ => rfl) rfl ?_
      refine dg_s (pc' := 183) [.int x1, .ref (x0 + 13), .int x1, .ref (x0 + 4)] rfl (fun _ => rfl) rfl ?_
      refine dg_s (pc' := 184) [.int ((dc_wi m (x0 + 3) (Int32.toNatClampNeg x1) (m.1 (x0 + 12) (Int32.toNatClampNeg x1))).1 (x0 + 13) (Int32.toNatClampNeg x1)), .int x1, .ref (x0 + 4)] rfl (fun _ => rfl) rfl ?_
      refine dg_m (pc' := 185) (dc_wi (dc_wi m (x0 + 3) (Int32.toNatClampNeg x1) (m.1 (x0 + 12) (Int32.toNatClampNeg x1))) (x0 + 4) (Int32.toNatClampNeg x1) ((dc_wi m (x0 + 3) (Int32.toNatClampNeg x1) (m.1 (x0 + 12) (Int32.toNatClampNeg x1))).1 (x0 + 13) (Int32.toNatClampNeg x1))) [] rfl (fun _ => rfl) rfl ?_
      refine dg_s (pc' := 186) [.ref x0] rfl (fun _ => rfl) rfl ?_
      refine dg_s (pc' := 189) [.ref (x0 + 5)] rfl (fun _ => rfl) rfl ?_
      refine dg_s (pc' := 190) [.int x1, .ref (x0 + 5)] rfl (fun _ => rfl) rfl ?_
      refine dg_s (pc' := 191) [.ref x0, .int x1, .ref (x0 + 5)] rfl (fun _ => rfl) rfl ?_
      refine dg_s (pc' := 194) [.ref (x0 + 14), .int x1, .ref (x0 + 5)] rfl (fun _ => rfl) rfl ?_
      refine dg_s (pc' := 195) [.int x1, .ref (x0 + 14), .int x1, .ref (x0 + 5)] rfl (fun _ => rfl) rfl ?_
      refine dg_s (pc' := 196) [.int ((dc_wi (dc_wi m (x0 + 3) (Int32.toNatClampNeg x1) (m.1 (x0 + 12) (Int32.toNatClampNeg x1))) (x0 + 4) (Int32.toNatClampNeg x1) ((dc_wi m (x0 + 3) (Int32.toNatClampNeg x1) (m.1 (x0 + 12) (Int32.toNatClampNeg x1))).1 (x0 + 13) (Int32.toNatClampNeg x1))).1 (x0 + 14) (Int32.toNatClampNeg x1)), .int x1, .ref (x0 + 5)] rfl (fun _ => rfl) rfl ?_
      refine dg_m (pc' := 197) (dc_wi (dc_wi (dc_wi m (x0 + 3) (Int32.toNatClampNeg x1) (m.1 (x0 + 12) (Int32.toNatClampNeg x1))) (x0 + 4) (Int32.toNatClampNeg x1) ((dc_wi m (x0 + 3) (Int32.toNatClampNeg x1) (m.1 (x0 + 12) (Int32.toNatClampNeg x1))).1 (x0 + 13) (Int32.toNatClampNeg x1))) (x0 + 5) (Int32.toNatClampNeg x1) ((dc_wi (dc_wi m (x0 + 3) (Int32.toNatClampNeg x1) (m.1 (x0 + 12) (Int32.toNatClampNeg x1))) (x0 + 4) (Int32.toNatClampNeg x1) ((dc_wi m (x0 + 3) (Int32.toNatClampNeg x1) (m.1 (x0 + 12) (Int32.toNatClampNeg x1))).1 (x0 + 13) (Int32.toNatClampNeg x1))).1 (x0 + 14) (Int32.toNatClampNeg x1))) [] rfl (fun _ => rfl) rfl ?_
      refine dg_s (pc' := 198) [.ref x0] rfl (fun _ => rfl) rfl ?_
      refine dg_s (pc' := 201) [.ref (x0 + 6)] rfl (fun _ => rfl) rfl ?_
      refine dg_s (pc' := 202) [.int x1, .ref (x0 + 6)] rfl (fun _ => rfl) rfl ?_
      refine dg_s (pc' := 203) [.ref x0, .int x1, .ref (x0 + 6)] rfl (fun _ => rfl) rfl ?_
      refine dg_s (pc' := 206) [.ref (x0 + 15), .int x1, .ref (x0 + 6)] rfl (fun _ => rfl) rfl ?_
      refine dg_s (pc' := 207) [.int x1, .ref (x0 + 15), .int x1, .ref (x0 + 6)] rfl (fun _ => rfl) rfl ?_
      refine dg_s (pc' := 208) [.int ((dc_wi (dc_wi (dc_wi m (x0 + 3) (Int32.toNatClampNeg x1) (m.1 (x0 + 12) (Int32.toNatClampNeg x1))) (x0 + 4) (Int32.toNatClampNeg x1) ((dc_wi m (x0 + 3) (Int32.toNatClampNeg x1) (m.1 (x0 + 12) (Int32.toNatClampNeg x1))).1 (x0 + 13) (Int32.toNatClampNeg x1))) (x0 + 5) (Int32.toNatClampNeg x1) ((dc_wi (dc_wi m (x0 + 3) (Int32.toNatClampNeg x1) (m.1 (x0 + 12) (Int32.toNatClampNeg x1))) (x0 + 4) (Int32.toNatClampNeg x1) ((dc_wi m (x0 + 3) (Int32.toNatClampNeg x1) (m.1 (x0 + 12) (Int32.toNatClampNeg x1))).1 (x0 + 13) (Int32.toNatClampNeg x1))).1 (x0 + 14) (Int32.toNatClampNeg x1))).1 (x0 + 15) (Int32.toNatClampNeg x1)), .int x1, .ref (x0 + 6)] rfl (fun _ => rfl) rfl ?_
      refine dg_m (pc' := 209) (dc_wi (dc_wi (dc_wi (dc_wi m (x0 + 3) (Int32.toNatClampNeg x1) (m.1 (x0 + 12) (Int32.toNatClampNeg x1))) (x0 + 4) (Int32.toNatClampNeg x1) ((dc_wi m (x0 + 3) (Int32.toNatClampNeg x1) (m.1 (x0 + 12) (Int32.toNatClampNeg x1))).1 (x0 + 13) (Int32.toNatClampNeg x1))) (x0 + 5) (Int32.toNatClampNeg x1) ((dc_wi (dc_wi m (x0 + 3) (Int32.toNatClampNeg x1) (m.1 (x0 + 12) (Int32.toNatClampNeg x1))) (x0 + 4) (Int32.toNatClampNeg x1) ((dc_wi m (x0 + 3) (Int32.toNatClampNeg x1) (m.1 (x0 + 12) (Int32.toNatClampNeg x1))).1 (x0 + 13) (Int32.toNatClampNeg x1))).1 (x0 + 14) (Int32.toNatClampNeg x1))) (x0 + 6) (Int32.toNatClampNeg x1) ((dc_wi (dc_wi (dc_wi m (x0 + 3) (Int32.toNatClampNeg x1) (m.1 (x0 + 12) (Int32.toNatClampNeg x1))) (x0 + 4) (Int32.toNatClampNeg x1) ((dc_wi m (x0 + 3) (Int32.toNatClampNeg x1) (m.1 (x0 + 12) (Int32.toNatClampNeg x1))).1 (x0 + 13) (Int32.toNatClampNeg x1))) (x0 + 5) (Int32.toNatClampNeg x1) ((dc_wi (dc_wi m (x0 + 3) (Int32.toNatClampNeg x1) (m.1 (x0 + 12) (Int32.toNatClampNeg x1))) (x0 + 4) (Int32.toNatClampNeg x1) ((dc_wi m (x0 + 3) (Int32.toNatClampNeg x1) (m.1 (x0 + 12) (Int32.toNatClampNeg x1))).1 (x0 + 13) (Int32.toNatClampNeg x1))).1 (x0 + 14) (Int32.toNatClampNeg x1))).1 (x0 + 15) (Int32.toNatClampNeg x1))) [] rfl (fun _ => rfl) rfl ?_
      refine dg_s (pc' := 210) [.ref x0] rfl (fun _ => rfl) rfl ?_
      refine dg_s (pc' := 213) [.ref (x0 + 7)] rfl (fun _ => rfl) rfl ?_
      refine dg_s (pc' := 214) [.int x1, .ref (x0 + 7)] rfl (fun _ => rfl) rfl ?_
      refine dg_s (pc' := 215) [.ref x0, .int x1, .ref (x0 + 7)] rfl (fun _ => rfl) rfl ?_
      refine dg_s (pc' := 218) [.ref (x0 + 16), .int x1, .ref (x0 + 7)] rfl (fun _ => rfl) rfl ?_
      refine dg_s (pc' := 219) [.int x1, .ref (x0 + 16), .int x1, .ref (x0 + 7)] rfl (fun _ => rfl) rfl ?_
      refine dg_s (pc' := 220) [.int ((dc_wi (dc_wi (dc_wi (dc_wi m (x0 + 3) (Int32.toNatClampNeg x1) (m.1 (x0 + 12) (Int32.toNatClampNeg x1))) (x0 + 4) (Int32.toNatClampNeg x1) ((dc_wi m (x0 + 3) (Int32.toNatClampNeg x1) (m.1 (x0 + 12) (Int32.toNatClampNeg x1))).1 (x0 + 13) (Int32.toNatClampNeg x1))) (x0 + 5) (Int32.toNatClampNeg x1) ((dc_wi (dc_wi m (x0 + 3) (Int32.toNatClampNeg x1) (m.1 (x0 + 12) (Int32.toNatClampNeg x1))) (x0 + 4) (Int32.toNatClampNeg x1) ((dc_wi m (x0 + 3) (Int32.toNatClampNeg x1) (m.1 (x0 + 12) (Int32.toNatClampNeg x1))).1 (x0 + 13) (Int32.toNatClampNeg x1))).1 (x0 + 14) (Int32.toNatClampNeg x1))) (x0 + 6) (Int32.toNatClampNeg x1) ((dc_wi (dc_wi (dc_wi m (x0 + 3) (Int32.toNatClampNeg x1) (m.1 (x0 + 12) (Int32.toNatClampNeg x1))) (x0 + 4) (Int32.toNatClampNeg x1) ((dc_wi m (x0 + 3) (Int32.toNatClampNeg x1) (m.1 (x0 + 12) (Int32.toNatClampNeg x1))).1 (x0 + 13) (Int32.toNatClampNeg x1))) (x0 + 5) (Int32.toNatClampNeg x1) ((dc_wi (dc_wi m (x0 + 3) (Int32.toNatClampNeg x1) (m.1 (x0 + 12) (Int32.toNatClampNeg x1))) (x0 + 4) (Int32.toNatClampNeg x1) ((dc_wi m (x0 + 3) (Int32.toNatClampNeg x1) (m.1 (x0 + 12) (Int32.toNatClampNeg x1))).1 (x0 + 13) (Int32.toNatClampNeg x1))).1 (x0 + 14) (Int32.toNatClampNeg x1))).1 (x0 + 15) (Int32.toNatClampNeg x1))).1 (x0 + 16) (Int32.toNatClampNeg x1)), .int x1, .ref (x0 + 7)] rfl (fun _ => rfl) rfl ?_
      refine dg_m (pc' := 221) (dc_wi (dc_wi (dc_wi (dc_wi (dc_wi m (x0 + 3) (Int32.toNatClampNeg x1) (m.1 (x0 + 12) (Int32.toNatClampNeg x1))) (x0 + 4) (Int32.toNatClampNeg x1) ((dc_wi m (x0 + 3) (Int32.toNatClampNeg x1) (m.1 (x0 + 12) (Int32.toNatClampNeg x1))).1 (x0 + 13) (Int32.toNatClampNeg x1))) (x0 + 5) (Int32.toNatClampNeg x1) ((dc_wi (dc_wi m (x0 + 3) (Int32.toNatClampNeg x1) (m.1 (x0 + 12) (Int32.toNatClampNeg x1))) (x0 + 4) (Int32.toNatClampNeg x1) ((dc_wi m (x0 + 3) (Int32.toNatClampNeg x1) (m.1 (x0 + 12) (Int32.toNatClampNeg x1))).1 (x0 + 13) (Int32.toNatClampNeg x1))).1 (x0 + 14) (Int32.toNatClampNeg x1))) (x0 + 6) (Int32.toNatClampNeg x1) ((dc_wi (dc_wi (dc_wi m (x0 + 3) (Int32.toNatClampNeg x1) (m.1 (x0 + 12) (Int32.toNatClampNeg x1))) (x0 + 4) (Int32.toNatClampNeg x1) ((dc_wi m (x0 + 3) (Int32.toNatClampNeg x1) (m.1 (x0 + 12) (Int32.toNatClampNeg x1))).1 (x0 + 13) (Int32.toNatClampNeg x1))) (x0 + 5) (Int32.toNatClampNeg x1) ((dc_wi (dc_wi m (x0 + 3) (Int32.toNatClampNeg x1) (m.1 (x0 + 12) (Int32.toNatClampNeg x1))) (x0 + 4) (Int32.toNatClampNeg x1) ((dc_wi m (x0 + 3) (Int32.toNatClampNeg x1) (m.1 (x0 + 12) (Int32.toNatClampNeg x1))).1 (x0 + 13) (Int32.toNatClampNeg x1))).1 (x0 + 14) (Int32.toNatClampNeg x1))).1 (x0 + 15) (Int32.toNatClampNeg x1))) (x0 + 7) (Int32.toNatClampNeg x1) ((dc_wi (dc_wi (dc_wi (dc_wi m (x0 + 3) (Int32.toNatClampNeg x1) (m.1 (x0 + 12) (Int32.toNatClampNeg x1))) (x0 + 4) (Int32.toNatClampNeg x1) ((dc_wi m (x0 + 3) (Int32.toNatClampNeg x1) (m.1 (x0 + 12) (Int32.toNatClampNeg x1))).1 (x0 + 13) (Int32.toNatClampNeg x1))) (x0 + 5) (Int32.toNatClampNeg x1) ((dc_wi (dc_wi m (x0 + 3) (Int32.toNatClampNeg x1) (m.1 (x0 + 12) (Int32.toNatClampNeg x1))) (x0 + 4) (Int32.toNatClampNeg x1) ((dc_wi m (x0 + 3) (Int32.toNatClampNeg x1) (m.1 (x0 + 12) (Int32.toNatClampNeg x1))).1 (x0 + 13) (Int32.toNatClampNeg x1))).1 (x0 + 14) (Int32.toNatClampNeg x1))) (x0 + 6) (Int32.toNatClampNeg x1) ((dc_wi (dc_wi (dc_wi m (x0 + 3) (Int32.toNatClampNeg x1) (m.1 (x0 + 12) (Int32.toNatClampNeg x1))) (x0 + 4) (Int32.toNatClampNeg x1) ((dc_wi m (x0 + 3) (Int32.toNatClampNeg x1) (m.1 (x0 + 12) (Int32.toNatClampNeg x1))).1 (x0 + 13) (Int32.toNatClampNeg x1))) (x0 + 5) (Int32.toNatClampNeg x1) ((dc_wi (dc_wi m (x0 + 3) (Int32.toNatClampNeg x1) (m.1 (x0 + 12) (Int32.toNatClampNeg x1))) (x0 + 4) (Int32.toNatClampNeg x1) ((dc_wi m (x0 + 3) (Int32.toNatClampNeg x1) (m.1 (x0 + 12) (Int32.toNatClampNeg x1))).1 (x0 + 13) (Int32.toNatClampNeg x1))).1 (x0 + 14) (Int32.toNatClampNeg x1))).1 (x0 + 15) (Int32.toNatClampNeg x1))).1 (x0 + 16) (Int32.toNatClampNeg x1))) [] rfl (fun _ => rfl) rfl ?_
      refine dg_s (pc' := 222) [.ref x0] rfl (fun _ => rfl) rfl ?_
      refine dg_s (pc' := 225) [.ref (x0 + 8)] rfl (fun _ => rfl) rfl ?_
      refine dg_s (pc' := 226) [.int x1, .ref (x0 + 8)] rfl (fun _ => rfl) rfl ?_
      refine dg_s (pc' := 227) [.int (1 : Int32), .int x1, .ref (x0 + 8)] rfl (fun _ => rfl) rfl ?_
      refine dg_m (pc' := 228) (dc_wi (dc_wi (dc_wi (dc_wi (dc_wi (dc_wi m (x0 + 3) (Int32.toNatClampNeg x1) (m.1 (x0 + 12) (Int32.toNatClampNeg x1))) (x0 + 4) (Int32.toNatClampNeg x1) ((dc_wi m (x0 + 3) (Int32.toNatClampNeg x1) (m.1 (x0 + 12) (Int32.toNatClampNeg x1))).1 (x0 + 13) (Int32.toNatClampNeg x1))) (x0 + 5) (Int32.toNatClampNeg x1) ((dc_wi (dc_wi m (x0 + 3) (Int32.toNatClampNeg x1) (m.1 (x0 + 12) (Int32.toNatClampNeg x1))) (x0 + 4) (Int32.toNatClampNeg x1) ((dc_wi m (x0 + 3) (Int32.toNatClampNeg x1) (m.1 (x0 + 12) (Int32.toNatClampNeg x1))).1 (x0 + 13) (Int32.toNatClampNeg x1))).1 (x0 + 14) (Int32.toNatClampNeg x1))) (x0 + 6) (Int32.toNatClampNeg x1) ((dc_wi (dc_wi (dc_wi m (x0 + 3) (Int32.toNatClampNeg x1) (m.1 (x0 + 12) (Int32.toNatClampNeg x1))) (x0 + 4) (Int32.toNatClampNeg x1) ((dc_wi m (x0 + 3) (Int32.toNatClampNeg x1) (m.1 (x0 + 12) (Int32.toNatClampNeg x1))).1 (x0 + 13) (Int32.toNatClampNeg x1))) (x0 + 5) (Int32.toNatClampNeg x1) ((dc_wi (dc_wi m (x0 + 3) (Int32.toNatClampNeg x1) (m.1 (x0 + 12) (Int32.toNatClampNeg x1))) (x0 + 4) (Int32.toNatClampNeg x1) ((dc_wi m (x0 + 3) (Int32.toNatClampNeg x1) (m.1 (x0 + 12) (Int32.toNatClampNeg x1))).1 (x0 + 13) (Int32.toNatClampNeg x1))).1 (x0 + 14) (Int32.toNatClampNeg x1))).1 (x0 + 15) (Int32.toNatClampNeg x1))) (x0 + 7) (Int32.toNatClampNeg x1) ((dc_wi (dc_wi (dc_wi (dc_wi m (x0 + 3) (Int32.toNatClampNeg x1) (m.1 (x0 + 12) (Int32.toNatClampNeg x1))) (x0 + 4) (Int32.toNatClampNeg x1) ((dc_wi m (x0 + 3) (Int32.toNatClampNeg x1) (m.1 (x0 + 12) (Int32.toNatClampNeg x1))).1 (x0 + 13) (Int32.toNatClampNeg x1))) (x0 + 5) (Int32.toNatClampNeg x1) ((dc_wi (dc_wi m (x0 + 3) (Int32.toNatClampNeg x1) (m.1 (x0 + 12) (Int32.toNatClampNeg x1))) (x0 + 4) (Int32.toNatClampNeg x1) ((dc_wi m (x0 + 3) (Int32.toNatClampNeg x1) (m.1 (x0 + 12) (Int32.toNatClampNeg x1))).1 (x0 + 13) (Int32.toNatClampNeg x1))).1 (x0 + 14) (Int32.toNatClampNeg x1))) (x0 + 6) (Int32.toNatClampNeg x1) ((dc_wi (dc_wi (dc_wi m (x0 + 3) (Int32.toNatClampNeg x1) (m.1 (x0 + 12) (Int32.toNatClampNeg x1))) (x0 + 4) (Int32.toNatClampNeg x1) ((dc_wi m (x0 + 3) (Int32.toNatClampNeg x1) (m.1 (x0 + 12) (Int32.toNatClampNeg x1))).1 (x0 + 13) (Int32.toNatClampNeg x1))) (x0 + 5) (Int32.toNatClampNeg x1) ((dc_wi (dc_wi m (x0 + 3) (Int32.toNatClampNeg x1) (m.1 (x0 + 12) (Int32.toNatClampNeg x1))) (x0 + 4) (Int32.toNatClampNeg x1) ((dc_wi m (x0 + 3) (Int32.toNatClampNeg x1) (m.1 (x0 + 12) (Int32.toNatClampNeg x1))).1 (x0 + 13) (Int32.toNatClampNeg x1))).1 (x0 + 14) (Int32.toNatClampNeg x1))).1 (x0 + 15) (Int32.toNatClampNeg x1))).1 (x0 + 16) (Int32.toNatClampNeg x1))) (x0 + 8) (Int32.toNatClampNeg x1) (1 : Int32)) [] rfl (fun _ => rfl) rfl ?_
      refine dg_L (pc' := 231) [(1, .int (x1 + (1 : Int32))), (0, .ref x0)] [] rfl (fun _ => rfl) rfl ?_
      refine dw_s (pc' := 155) [] rfl (fun _ => rfl) ?_
      exact dw_j rfl (fun lv1 hv => ih (x1 + (1 : Int32)) (dc_wi (dc_wi (dc_wi (dc_wi (dc_wi (dc_wi m (x0 + 3) (Int32.toNatClampNeg x1) (m.1 (x0 + 12) (Int32.toNatClampNeg x1))) (x0 + 4) (Int32.toNatClampNeg x1) ((dc_wi m (x0 + 3) (Int32.toNatClampNeg x1) (m.1 (x0 + 12) (Int32.toNatClampNeg x1))).1 (x0 + 13) (Int32.toNatClampNeg x1))) (x0 + 5) (Int32.toNatClampNeg x1) ((dc_wi (dc_wi m (x0 + 3) (Int32.toNatClampNeg x1) (m.1 (x0 + 12) (Int32.toNatClampNeg x1))) (x0 + 4) (Int32.toNatClampNeg x1) ((dc_wi m (x0 + 3) (Int32.toNatClampNeg x1) (m.1 (x0 + 12) (Int32.toNatClampNeg x1))).1 (x0 + 13) (Int32.toNatClampNeg x1))).1 (x0 + 14) (Int32.toNatClampNeg x1))) (x0 + 6) (Int32.toNatClampNeg x1) ((dc_wi (dc_wi (dc_wi m (x0 + 3) (Int32.toNatClampNeg x1) (m.1 (x0 + 12) (Int32.toNatClampNeg x1))) (x0 + 4) (Int32.toNatClampNeg x1) ((dc_wi m (x0 + 3) (Int32.toNatClampNeg x1) (m.1 (x0 + 12) (Int32.toNatClampNeg x1))).1 (x0 + 13) (Int32.toNatClampNeg x1))) (x0 + 5) (Int32.toNatClampNeg x1) ((dc_wi (dc_wi m (x0 + 3) (Int32.toNatClampNeg x1) (m.1 (x0 + 12) (Int32.toNatClampNeg x1))) (x0 + 4) (Int32.toNatClampNeg x1) ((dc_wi m (x0 + 3) (Int32.toNatClampNeg x1) (m.1 (x0 + 12) (Int32.toNatClampNeg x1))).1 (x0 + 13) (Int32.toNatClampNeg x1))).1 (x0 + 14) (Int32.toNatClampNeg x1))).1 (x0 + 15) (Int32.toNatClampNeg x1))) (x0 + 7) (Int32.toNatClampNeg x1) ((dc_wi (dc_wi (dc_wi (dc_wi m (x0 + 3) (Int32.toNatClampNeg x1) (m.1 (x0 + 12) (Int32.toNatClampNeg x1))) (x0 + 4) (Int32.toNatClampNeg x1) ((dc_wi m (x0 + 3) (Int32.toNatClampNeg x1) (m.1 (x0 + 12) (Int32.toNatClampNeg x1))).1 (x0 + 13) (Int32.toNatClampNeg x1))) (x0 + 5) (Int32.toNatClampNeg x1) ((dc_wi (dc_wi m (x0 + 3) (Int32.toNatClampNeg x1) (m.1 (x0 + 12) (Int32.toNatClampNeg x1))) (x0 + 4) (Int32.toNatClampNeg x1) ((dc_wi m (x0 + 3) (Int32.toNatClampNeg x1) (m.1 (x0 + 12) (Int32.toNatClampNeg x1))).1 (x0 + 13) (Int32.toNatClampNeg x1))).1 (x0 + 14) (Int32.toNatClampNeg x1))) (x0 + 6) (Int32.toNatClampNeg x1) ((dc_wi (dc_wi (dc_wi m (x0 + 3) (Int32.toNatClampNeg x1) (m.1 (x0 + 12) (Int32.toNatClampNeg x1))) (x0 + 4) (Int32.toNatClampNeg x1) ((dc_wi m (x0 + 3) (Int32.toNatClampNeg x1) (m.1 (x0 + 12) (Int32.toNatClampNeg x1))).1 (x0 + 13) (Int32.toNatClampNeg x1))) (x0 + 5) (Int32.toNatClampNeg x1) ((dc_wi (dc_wi m (x0 + 3) (Int32.toNatClampNeg x1) (m.1 (x0 + 12) (Int32.toNatClampNeg x1))) (x0 + 4) (Int32.toNatClampNeg x1) ((dc_wi m (x0 + 3) (Int32.toNatClampNeg x1) (m.1 (x0 + 12) (Int32.toNatClampNeg x1))).1 (x0 + 13) (Int32.toNatClampNeg x1))).1 (x0 + 14) (Int32.toNatClampNeg x1))).1 (x0 + 15) (Int32.toNatClampNeg x1))).1 (x0 + 16) (Int32.toNatClampNeg x1))) (x0 + 8) (Int32.toNatClampNeg x1) (1 : Int32)) lv1 (hv.1 _ rfl) (hv.2.1 _ rfl))
noncomputable def d_X10_text_l117b (x0 : Nat) (x1 : Int32) (m : dc_M) : Option ((Int32 × dc_M) ⊕ (Int32 × dc_M)) :=
  (if 6 ≤ (Int32.toInt x1) then ((d_X10_text_l155 x0 (0 : Int32) m).map (fun z => Sum.inr (z))) else some (Sum.inl ((x1 + (1 : Int32)), (dc_wi (dc_wi m (x0 + 1) (Int32.toNatClampNeg x1) (m.1 (x0 + 10) (Int32.toNatClampNeg x1))) (x0 + 2) (Int32.toNatClampNeg x1) ((dc_wi m (x0 + 1) (Int32.toNatClampNeg x1) (m.1 (x0 + 10) (Int32.toNatClampNeg x1))).1 (x0 + 11) (Int32.toNatClampNeg x1))))))
noncomputable def d_X10_text_l117s (x0 : Nat) : (Int32 × dc_M) → Option ((Int32 × dc_M) ⊕ (Int32 × dc_M)) := fun s => d_X10_text_l117b x0 s.1 s.2
noncomputable def d_X10_text_l117 (x0 : Nat) (x1 : Int32) (m : dc_M) : Option (Int32 × dc_M) := dc_lp (d_X10_text_l117s x0) (x1, m)
set_option maxHeartbeats 8000000 in
theorem k_X10_text_l117 {u : Nat} {Φ : (Option (Int32 × dc_M)) → Option Value → dc_M → Prop} (x0 : Nat) (kR : ∀ (v : Int32) (m : dc_M), Φ (some ((v, m))) (some (.int v)) m) : ∀ (N : Nat), ∀ (x1 : Int32) (m : dc_M) (lv : ab_L), ab_lk lv 0 = some (.ref x0) → ab_lk lv 1 = some (.int x1) → dc_pv u N ab_M_X10_text 117 lv [] m (Φ (d_X10_text_l117 x0 x1 m)) := by
  intro N
  induction N with
  | zero => intros; exact dc_pv_zero
  | succ N ih =>
    intro x1 m lv f0 f1
    refine dc_ok (C := C_X10_text) (S := S_X10_text) CO_X10_text 400 117 [(0, .ref x0), (1, .int x1)] lv [] m (dc_sub_cons f0 (dc_sub_cons f1 (dc_sub_nil))) ?_
    unfold d_X10_text_l117
    rw [dc_lp_eq]
    show (fun t x => dc_lf u N ab_M_X10_text (Φ (Option.bind t (dc_bk (d_X10_text_l117s x0)))) x) (d_X10_text_l117b x0 x1 m) _
    dsimp only
    unfold d_X10_text_l117b
    refine dg_s (pc' := 118) [.int x1] rfl (fun _ => rfl) rfl ?_
    refine dg_s (pc' := 120) [.int (6 : Int32), .int x1] rfl (fun _ => rfl) rfl ?_
    refine dw_if (fun t => Φ (Option.bind t (dc_bk (d_X10_text_l117s x0)))) (6 ≤ (Int32.toInt x1)) [] 153 123 rfl (fun _ => rfl) (fun c0 => ?_) (fun c0 => ?_)
    · refine dw_g rfl ?_
      refine dg_s (pc' := 154) [.int (0 : Int32)] rfl (fun _ => rfl) rfl ?_
      refine dw_L (pc' := 155) [(1, .int (0 : Int32)), (0, .ref x0)] [] rfl (fun _ => rfl) ?_
      exact dw_j rfl (fun lv1 hv => k_X10_text_l155 (Φ := (fun t => Φ (Option.bind (t.map (fun z => Sum.inr (z))) (dc_bk (d_X10_text_l117s x0))))) x0 (fun _a _b => kR _a _b) N  (0 : Int32) m lv1 (hv.1 _ rfl) (hv.2.1 _ rfl))
    · refine dw_g rfl ?_
      refine dg_s (pc' := 124) [.ref x0] rfl (fun _ => rfl) rfl ?_
      refine dg_s (pc' := 127) [.ref (x0 + 1)] rfl (fun _ => rfl) rfl ?_
      refine dg_s (pc' := 128) [.int x1, .ref (x0 + 1)] rfl (fun _ => rfl) rfl ?_
      refine dg_s (pc' := 129) [.ref x0, .int x1, .ref (x0 + 1)] rfl (fun _ => rfl) rfl ?_
      refine dg_s (pc' := 132) [.ref (x0 + 10), .int x1, .ref (x0 + 1)] rfl (fun _ => rfl) rfl ?_
      refine dg_s (pc' := 133) [.int x1, .ref (x0 + 10), .int x1, .ref (x0 + 1)] rfl (fun _ => rfl) rfl ?_
      refine dg_s (pc' := 134) [.int (m.1 (x0 + 10) (Int32.toNatClampNeg x1)), .int x1, .ref (x0 + 1)] rfl (fun _ => rfl) rfl ?_
      refine dg_m (pc' := 135) (dc_wi m (x0 + 1) (Int32.toNatClampNeg x1) (m.1 (x0 + 10) (Int32.toNatClampNeg x1))) [] rfl (fun _ => rfl) rfl ?_
      refine dg_s (pc' := 136) [.ref x0] rfl (fun _ => rfl) rfl ?_
      refine dg_s (pc' := 139) [.ref (x0 + 2)] rfl (fun _ => rfl) rfl ?_
      refine dg_s (pc' := 140) [.int x1, .ref (x0 + 2)] rfl (fun _ => rfl) rfl ?_
      refine dg_s (pc' := 141) [.ref x0, .int x1, .ref (x0 + 2)] rfl (fun _ => rfl) rfl ?_
      refine dg_s (pc' := 144) [.ref (x0 + 11), .int x1, .ref (x0 + 2)] rfl (fun _ => rfl) rfl ?_
      refine dg_s (pc' := 145) [.int x1, .ref (x0 + 11), .int x1, .ref (x0 + 2)] rfl (fun _ => rfl) rfl ?_
      refine dg_s (pc' := 146) [.int ((dc_wi m (x0 + 1) (Int32.toNatClampNeg x1) (m.1 (x0 + 10) (Int32.toNatClampNeg x1))).1 (x0 + 11) (Int32.toNatClampNeg x1)), .int x1, .ref (x0 + 2)] rfl (fun _ => rfl) rfl ?_
      refine dg_m (pc' := 147) (dc_wi (dc_wi m (x0 + 1) (Int32.toNatClampNeg x1) (m.1 (x0 + 10) (Int32.toNatClampNeg x1))) (x0 + 2) (Int32.toNatClampNeg x1) ((dc_wi m (x0 + 1) (Int32.toNatClampNeg x1) (m.1 (x0 + 10) (Int32.toNatClampNeg x1))).1 (x0 + 11) (Int32.toNatClampNeg x1))) [] rfl (fun _ => rfl) rfl ?_
      refine dg_L (pc' := 150) [(1, .int (x1 + (1 : Int32))), (0, .ref x0)] [] rfl (fun _ => rfl) rfl ?_
      refine dw_s (pc' := 117) [] rfl (fun _ => rfl) ?_
      exact dw_j rfl (fun lv1 hv => ih (x1 + (1 : Int32)) (dc_wi (dc_wi m (x0 + 1) (Int32.toNatClampNeg x1) (m.1 (x0 + 10) (Int32.toNatClampNeg x1))) (x0 + 2) (Int32.toNatClampNeg x1) ((dc_wi m (x0 + 1) (Int32.toNatClampNeg x1) (m.1 (x0 + 10) (Int32.toNatClampNeg x1))).1 (x0 + 11) (Int32.toNatClampNeg x1))) lv1 (hv.1 _ rfl) (hv.2.1 _ rfl))
noncomputable def d_X10_text_b55 (x0 : Nat) (m : dc_M) : Option (Int32 × dc_M) :=
  (if (Int32.toInt ((dc_wi (dc_wi m x0 13 (0 : Int32)) x0 14 ((dc_wi m x0 13 (0 : Int32)).1 x0 15)).1 x0 15)) ≤ 0 then (d_X10_text_l117 x0 (0 : Int32) (dc_wi (dc_wi (dc_wi (dc_wi (dc_wi (dc_wi m x0 13 (0 : Int32)) x0 14 ((dc_wi m x0 13 (0 : Int32)).1 x0 15)) x0 0 ((dc_wi (dc_wi m x0 13 (0 : Int32)) x0 14 ((dc_wi m x0 13 (0 : Int32)).1 x0 15)).1 x0 21)) x0 3 ((dc_wi (dc_wi (dc_wi m x0 13 (0 : Int32)) x0 14 ((dc_wi m x0 13 (0 : Int32)).1 x0 15)) x0 0 ((dc_wi (dc_wi m x0 13 (0 : Int32)) x0 14 ((dc_wi m x0 13 (0 : Int32)).1 x0 15)).1 x0 21)).1 x0 24)) x0 10 ((dc_wi (dc_wi (dc_wi (dc_wi m x0 13 (0 : Int32)) x0 14 ((dc_wi m x0 13 (0 : Int32)).1 x0 15)) x0 0 ((dc_wi (dc_wi m x0 13 (0 : Int32)) x0 14 ((dc_wi m x0 13 (0 : Int32)).1 x0 15)).1 x0 21)) x0 3 ((dc_wi (dc_wi (dc_wi m x0 13 (0 : Int32)) x0 14 ((dc_wi m x0 13 (0 : Int32)).1 x0 15)) x0 0 ((dc_wi (dc_wi m x0 13 (0 : Int32)) x0 14 ((dc_wi m x0 13 (0 : Int32)).1 x0 15)).1 x0 21)).1 x0 24)).1 x0 30)) x0 11 ((dc_wi (dc_wi (dc_wi (dc_wi (dc_wi m x0 13 (0 : Int32)) x0 14 ((dc_wi m x0 13 (0 : Int32)).1 x0 15)) x0 0 ((dc_wi (dc_wi m x0 13 (0 : Int32)) x0 14 ((dc_wi m x0 13 (0 : Int32)).1 x0 15)).1 x0 21)) x0 3 ((dc_wi (dc_wi (dc_wi m x0 13 (0 : Int32)) x0 14 ((dc_wi m x0 13 (0 : Int32)).1 x0 15)) x0 0 ((dc_wi (dc_wi m x0 13 (0 : Int32)) x0 14 ((dc_wi m x0 13 (0 : Int32)).1 x0 15)).1 x0 21)).1 x0 24)) x0 10 ((dc_wi (dc_wi (dc_wi (dc_wi m x0 13 (0 : Int32)) x0 14 ((dc_wi m x0 13 (0 : Int32)).1 x0 15)) x0 0 ((dc_wi (dc_wi m x0 13 (0 : Int32)) x0 14 ((dc_wi m x0 13 (0 : Int32)).1 x0 15)).1 x0 21)) x0 3 ((dc_wi (dc_wi (dc_wi m x0 13 (0 : Int32)) x0 14 ((dc_wi m x0 13 (0 : Int32)).1 x0 15)) x0 0 ((dc_wi (dc_wi m x0 13 (0 : Int32)) x0 14 ((dc_wi m x0 13 (0 : Int32)).1 x0 15)).1 x0 21)).1 x0 24)).1 x0 30)).1 x0 31))) else some ((((-10 : Int32) - ((dc_wi (dc_wi m x0 13 (0 : Int32)) x0 14 ((dc_wi m x0 13 (0 : Int32)).1 x0 15)).1 x0 16)), (dc_wi (dc_wi m x0 13 (0 : Int32)) x0 14 ((dc_wi m x0 13 (0 : Int32)).1 x0 15)))))
set_option maxHeartbeats 8000000 in
theorem k_X10_text_b55 {u : Nat} {N : Nat} {Φ : (Option (Int32 × dc_M)) → Option Value → dc_M → Prop} (x0 : Nat) (m : dc_M) (kR : ∀ (v : Int32) (m : dc_M), Φ (some ((v, m))) (some (.int v)) m)  {lv : ab_L} (f0 : ab_lk lv 0 = some (.ref x0)) : dc_pv u N ab_M_X10_text 55 lv [] m (Φ (d_X10_text_b55 x0 m)) := by
  refine dc_pv.mono (dc_ok (C := C_X10_text) (S := S_X10_text) CO_X10_text 400 55 [(0, .ref x0)] lv [] m (dc_sub_cons f0 (dc_sub_nil)) ?_) (Nat.le_succ N)
  unfold d_X10_text_b55
  refine dg_s (pc' := 56) [.ref x0] rfl (fun _ => rfl) rfl ?_
  refine dg_s (pc' := 57) [.int (0 : Int32), .ref x0] rfl (fun _ => rfl) rfl ?_
  refine dg_m (pc' := 60) (dc_wi m x0 13 (0 : Int32)) [] rfl (fun _ => rfl) rfl ?_
  refine dg_s (pc' := 61) [.ref x0] rfl (fun _ => rfl) rfl ?_
  refine dg_s (pc' := 62) [.ref x0, .ref x0] rfl (fun _ => rfl) rfl ?_
  refine dg_s (pc' := 65) [.int ((dc_wi m x0 13 (0 : Int32)).1 x0 15), .ref x0] rfl (fun _ => rfl) rfl ?_
  refine dg_m (pc' := 68) (dc_wi (dc_wi m x0 13 (0 : Int32)) x0 14 ((dc_wi m x0 13 (0 : Int32)).1 x0 15)) [] rfl (fun _ => rfl) rfl ?_
  refine dg_s (pc' := 69) [.ref x0] rfl (fun _ => rfl) rfl ?_
  refine dg_s (pc' := 72) [.int ((dc_wi (dc_wi m x0 13 (0 : Int32)) x0 14 ((dc_wi m x0 13 (0 : Int32)).1 x0 15)).1 x0 15)] rfl (fun _ => rfl) rfl ?_
  refine dw_if (fun t => Φ t) ((Int32.toInt ((dc_wi (dc_wi m x0 13 (0 : Int32)) x0 14 ((dc_wi m x0 13 (0 : Int32)).1 x0 15)).1 x0 15)) ≤ 0) [] 83 75 rfl (fun _ => rfl) (fun c0 => ?_) (fun c0 => ?_)
  · refine dw_g rfl ?_
    refine dg_s (pc' := 84) [.ref x0] rfl (fun _ => rfl) rfl ?_
    refine dg_s (pc' := 85) [.ref x0, .ref x0] rfl (fun _ => rfl) rfl ?_
    refine dg_s (pc' := 88) [.int ((dc_wi (dc_wi m x0 13 (0 : Int32)) x0 14 ((dc_wi m x0 13 (0 : Int32)).1 x0 15)).1 x0 21), .ref x0] rfl (fun _ => rfl) rfl ?_
    refine dg_m (pc' := 91) (dc_wi (dc_wi (dc_wi m x0 13 (0 : Int32)) x0 14 ((dc_wi m x0 13 (0 : Int32)).1 x0 15)) x0 0 ((dc_wi (dc_wi m x0 13 (0 : Int32)) x0 14 ((dc_wi m x0 13 (0 : Int32)).1 x0 15)).1 x0 21)) [] rfl (fun _ => rfl) rfl ?_
    refine dg_s (pc' := 92) [.ref x0] rfl (fun _ => rfl) rfl ?_
    refine dg_s (pc' := 93) [.ref x0, .ref x0] rfl (fun _ => rfl) rfl ?_
    refine dg_s (pc' := 96) [.int ((dc_wi (dc_wi (dc_wi m x0 13 (0 : Int32)) x0 14 ((dc_wi m x0 13 (0 : Int32)).1 x0 15)) x0 0 ((dc_wi (dc_wi m x0 13 (0 : Int32)) x0 14 ((dc_wi m x0 13 (0 : Int32)).1 x0 15)).1 x0 21)).1 x0 24), .ref x0] rfl (fun _ => rfl) rfl ?_
    refine dg_m (pc' := 99) (dc_wi (dc_wi (dc_wi (dc_wi m x0 13 (0 : Int32)) x0 14 ((dc_wi m x0 13 (0 : Int32)).1 x0 15)) x0 0 ((dc_wi (dc_wi m x0 13 (0 : Int32)) x0 14 ((dc_wi m x0 13 (0 : Int32)).1 x0 15)).1 x0 21)) x0 3 ((dc_wi (dc_wi (dc_wi m x0 13 (0 : Int32)) x0 14 ((dc_wi m x0 13 (0 : Int32)).1 x0 15)) x0 0 ((dc_wi (dc_wi m x0 13 (0 : Int32)) x0 14 ((dc_wi m x0 13 (0 : Int32)).1 x0 15)).1 x0 21)).1 x0 24)) [] rfl (fun _ => rfl) rfl ?_
    refine dg_s (pc' := 100) [.ref x0] rfl (fun _ => rfl) rfl ?_
    refine dg_s (pc' := 101) [.ref x0, .ref x0] rfl (fun _ => rfl) rfl ?_
    refine dg_s (pc' := 104) [.int ((dc_wi (dc_wi (dc_wi (dc_wi m x0 13 (0 : Int32)) x0 14 ((dc_wi m x0 13 (0 : Int32)).1 x0 15)) x0 0 ((dc_wi (dc_wi m x0 13 (0 : Int32)) x0 14 ((dc_wi m x0 13 (0 : Int32)).1 x0 15)).1 x0 21)) x0 3 ((dc_wi (dc_wi (dc_wi m x0 13 (0 : Int32)) x0 14 ((dc_wi m x0 13 (0 : Int32)).1 x0 15)) x0 0 ((dc_wi (dc_wi m x0 13 (0 : Int32)) x0 14 ((dc_wi m x0 13 (0 : Int32)).1 x0 15)).1 x0 21)).1 x0 24)).1 x0 30), .ref x0] rfl (fun _ => rfl) rfl ?_
    refine dg_m (pc' := 107) (dc_wi (dc_wi (dc_wi (dc_wi (dc_wi m x0 13 (0 : Int32)) x0 14 ((dc_wi m x0 13 (0 : Int32)).1 x0 15)) x0 0 ((dc_wi (dc_wi m x0 13 (0 : Int32)) x0 14 ((dc_wi m x0 13 (0 : Int32)).1 x0 15)).1 x0 21)) x0 3 ((dc_wi (dc_wi (dc_wi m x0 13 (0 : Int32)) x0 14 ((dc_wi m x0 13 (0 : Int32)).1 x0 15)) x0 0 ((dc_wi (dc_wi m x0 13 (0 : Int32)) x0 14 ((dc_wi m x0 13 (0 : Int32)).1 x0 15)).1 x0 21)).1 x0 24)) x0 10 ((dc_wi (dc_wi (dc_wi (dc_wi m x0 13 (0 : Int32)) x0 14 ((dc_wi m x0 13 (0 : Int32)).1 x0 15)) x0 0 ((dc_wi (dc_wi m x0 13 (0 : Int32)) x0 14 ((dc_wi m x0 13 (0 : Int32)).1 x0 15)).1 x0 21)) x0 3 ((dc_wi (dc_wi (dc_wi m x0 13 (0 : Int32)) x0 14 ((dc_wi m x0 13 (0 : Int32)).1 x0 15)) x0 0 ((dc_wi (dc_wi m x0 13 (0 : Int32)) x0 14 ((dc_wi m x0 13 (0 : Int32)).1 x0 15)).1 x0 21)).1 x0 24)).1 x0 30)) [] rfl (fun _ => rfl) rfl ?_
    refine dg_s (pc' := 108) [.ref x0] rfl (fun _ => rfl) rfl ?_
    refine dg_s (pc' := 109) [.ref x0, .ref x0] rfl (fun _ => rfl) rfl ?_
    refine dg_s (pc' := 112) [.int ((dc_wi (dc_wi (dc_wi (dc_wi (dc_wi m x0 13 (0 : Int32)) x0 14 ((dc_wi m x0 13 (0 : Int32)).1 x0 15)) x0 0 ((dc_wi (dc_wi m x0 13 (0 : Int32)) x0 14 ((dc_wi m x0 13 (0 : Int32)).1 x0 15)).1 x0 21)) x0 3 ((dc_wi (dc_wi (dc_wi m x0 13 (0 : Int32)) x0 14 ((dc_wi m x0 13 (0 : Int32)).1 x0 15)) x0 0 ((dc_wi (dc_wi m x0 13 (0 : Int32)) x0 14 ((dc_wi m x0 13 (0 : Int32)).1 x0 15)).1 x0 21)).1 x0 24)) x0 10 ((dc_wi (dc_wi (dc_wi (dc_wi m x0 13 (0 : Int32)) x0 14 ((dc_wi m x0 13 (0 : Int32)).1 x0 15)) x0 0 ((dc_wi (dc_wi m x0 13 (0 : Int32)) x0 14 ((dc_wi m x0 13 (0 : Int32)).1 x0 15)).1 x0 21)) x0 3 ((dc_wi (dc_wi (dc_wi m x0 13 (0 : Int32)) x0 14 ((dc_wi m x0 13 (0 : Int32)).1 x0 15)) x0 0 ((dc_wi (dc_wi m x0 13 (0 : Int32)) x0 14 ((dc_wi m x0 13 (0 : Int32)).1 x0 15)).1 x0 21)).1 x0 24)).1 x0 30)).1 x0 31), .ref x0] rfl (fun _ => rfl) rfl ?_
    refine dg_m (pc' := 115) (dc_wi (dc_wi (dc_wi (dc_wi (dc_wi (dc_wi m x0 13 (0 : Int32)) x0 14 ((dc_wi m x0 13 (0 : Int32)).1 x0 15)) x0 0 ((dc_wi (dc_wi m x0 13 (0 : Int32)) x0 14 ((dc_wi m x0 13 (0 : Int32)).1 x0 15)).1 x0 21)) x0 3 ((dc_wi (dc_wi (dc_wi m x0 13 (0 : Int32)) x0 14 ((dc_wi m x0 13 (0 : Int32)).1 x0 15)) x0 0 ((dc_wi (dc_wi m x0 13 (0 : Int32)) x0 14 ((dc_wi m x0 13 (0 : Int32)).1 x0 15)).1 x0 21)).1 x0 24)) x0 10 ((dc_wi (dc_wi (dc_wi (dc_wi m x0 13 (0 : Int32)) x0 14 ((dc_wi m x0 13 (0 : Int32)).1 x0 15)) x0 0 ((dc_wi (dc_wi m x0 13 (0 : Int32)) x0 14 ((dc_wi m x0 13 (0 : Int32)).1 x0 15)).1 x0 21)) x0 3 ((dc_wi (dc_wi (dc_wi m x0 13 (0 : Int32)) x0 14 ((dc_wi m x0 13 (0 : Int32)).1 x0 15)) x0 0 ((dc_wi (dc_wi m x0 13 (0 : Int32)) x0 14 ((dc_wi m x0 13 (0 : Int32)).1 x0 15)).1 x0 21)).1 x0 24)).1 x0 30)) x0 11 ((dc_wi (dc_wi (dc_wi (dc_wi (dc_wi m x0 13 (0 : Int32)) x0 14 ((dc_wi m x0 13 (0 : Int32)).1 x0 15)) x0 0 ((dc_wi (dc_wi m x0 13 (0 : Int32)) x0 14 ((dc_wi m x0 13 (0 : Int32)).1 x0 15)).1 x0 21)) x0 3 ((dc_wi (dc_wi (dc_wi m x0 13 (0 : Int32)) x0 14 ((dc_wi m x0 13 (0 : Int32)).1 x0 15)) x0 0 ((dc_wi (dc_wi m x0 13 (0 : Int32)) x0 14 ((dc_wi m x0 13 (0 : Int32)).1 x0 15)).1 x0 21)).1 x0 24)) x0 10 ((dc_wi (dc_wi (dc_wi (dc_wi m x0 13 (0 : Int32)) x0 14 ((dc_wi m x0 13 (0 : Int32)).1 x0 15)) x0 0 ((dc_wi (dc_wi m x0 13 (0 : Int32)) x0 14 ((dc_wi m x0 13 (0 : Int32)).1 x0 15)).1 x0 21)) x0 3 ((dc_wi (dc_wi (dc_wi m x0 13 (0 : Int32)) x0 14 ((dc_wi m x0 13 (0 : Int32)).1 x0 15)) x0 0 ((dc_wi (dc_wi m x0 13 (0 : Int32)) x0 14 ((dc_wi m x0 13 (0 : Int32)).1 x0 15)).1 x0 21)).1 x0 24)).1 x0 30)).1 x0 31)) [] rfl (fun _ => rfl) rfl ?_
    refine dg_s (pc' := 116) [.int (0 : Int32)] rfl (fun _ => rfl) rfl ?_
    refine dw_L (pc' := 117) [(1, .int (0 : Int32)), (0, .ref x0)] [] rfl (fun _ => rfl) ?_
    exact dw_j rfl (fun lv1 hv => k_X10_text_l117 (Φ := (fun t => Φ t)) x0 (fun _a _b => kR _a _b) N  (0 : Int32) (dc_wi (dc_wi (dc_wi (dc_wi (dc_wi (dc_wi m x0 13 (0 : Int32)) x0 14 ((dc_wi m x0 13 (0 : Int32)).1 x0 15)) x0 0 ((dc_wi (dc_wi m x0 13 (0 : Int32)) x0 14 ((dc_wi m x0 13 (0 : Int32)).1 x0 15)).1 x0 21)) x0 3 ((dc_wi (dc_wi (dc_wi m x0 13 (0 : Int32)) x0 14 ((dc_wi m x0 13 (0 : Int32)).1 x0 15)) x0 0 ((dc_wi (dc_wi m x0 13 (0 : Int32)) x0 14 ((dc_wi m x0 13 (0 : Int32)).1 x0 15)).1 x0 21)).1 x0 24)) x0 10 ((dc_wi (dc_wi (dc_wi (dc_wi m x0 13 (0 : Int32)) x0 14 ((dc_wi m x0 13 (0 : Int32)).1 x0 15)) x0 0 ((dc_wi (dc_wi m x0 13 (0 : Int32)) x0 14 ((dc_wi m x0 13 (0 : Int32)).1 x0 15)).1 x0 21)) x0 3 ((dc_wi (dc_wi (dc_wi m x0 13 (0 : Int32)) x0 14 ((dc_wi m x0 13 (0 : Int32)).1 x0 15)) x0 0 ((dc_wi (dc_wi m x0 13 (0 : Int32)) x0 14 ((dc_wi m x0 13 (0 : Int32)).1 x0 15)).1 x0 21)).1 x0 24)).1 x0 30)) x0 11 ((dc_wi (dc_wi (dc_wi (dc_wi (dc_wi m x0 13 (0 : Int32)) x0 14 ((dc_wi m x0 13 (0 : Int32)).1 x0 15)) x0 0 ((dc_wi (dc_wi m x0 13 (0 : Int32)) x0 14 ((dc_wi m x0 13 (0 : Int32)).1 x0 15)).1 x0 21)) x0 3 ((dc_wi (dc_wi (dc_wi m x0 13 (0 : Int32)) x0 14 ((dc_wi m x0 13 (0 : Int32)).1 x0 15)) x0 0 ((dc_wi (dc_wi m x0 13 (0 : Int32)) x0 14 ((dc_wi m x0 13 (0 : Int32)).1 x0 15)).1 x0 21)).1 x0 24)) x0 10 ((dc_wi (dc_wi (dc_wi (dc_wi m x0 13 (0 : Int32)) x0 14 ((dc_wi m x0 13 (0 : Int32)).1 x0 15)) x0 0 ((dc_wi (dc_wi m x0 13 (0 : Int32)) x0 14 ((dc_wi m x0 13 (0 : Int32)).1 x0 15)).1 x0 21)) x0 3 ((dc_wi (dc_wi (dc_wi m x0 13 (0 : Int32)) x0 14 ((dc_wi m x0 13 (0 : Int32)).1 x0 15)) x0 0 ((dc_wi (dc_wi m x0 13 (0 : Int32)) x0 14 ((dc_wi m x0 13 (0 : Int32)).1 x0 15)).1 x0 21)).1 x0 24)).1 x0 30)).1 x0 31)) lv1 (hv.1 _ rfl) (hv.2.1 _ rfl))
  · refine dw_g rfl ?_
    refine dg_s (pc' := 77) [.int (-10 : Int32)] rfl (fun _ => rfl) rfl ?_
    refine dg_s (pc' := 78) [.ref x0, .int (-10 : Int32)] rfl (fun _ => rfl) rfl ?_
    refine dg_s (pc' := 81) [.int ((dc_wi (dc_wi m x0 13 (0 : Int32)) x0 14 ((dc_wi m x0 13 (0 : Int32)).1 x0 15)).1 x0 16), .int (-10 : Int32)] rfl (fun _ => rfl) rfl ?_
    refine dg_s (pc' := 82) [.int ((-10 : Int32) - ((dc_wi (dc_wi m x0 13 (0 : Int32)) x0 14 ((dc_wi m x0 13 (0 : Int32)).1 x0 15)).1 x0 16))] rfl (fun _ => rfl) rfl ?_
    exact dw_r (some (.inl (some (.int ((-10 : Int32) - ((dc_wi (dc_wi m x0 13 (0 : Int32)) x0 14 ((dc_wi m x0 13 (0 : Int32)).1 x0 15)).1 x0 16))), (dc_wi (dc_wi m x0 13 (0 : Int32)) x0 14 ((dc_wi m x0 13 (0 : Int32)).1 x0 15))))) rfl (fun _ => rfl) (kR _ _)
noncomputable def d_X10_text_l34b (x0 : Nat)  (m : dc_M) : Option (dc_M ⊕ (Int32 × dc_M)) :=
  (if ¬ (Int32.toInt (m.1 x0 15)) = 0 then ((d_X10_text_b55 x0 m).map (fun z => Sum.inr (z))) else (if (Int32.toInt (m.1 x0 19)) = 0 then ((d_X10_text_b55 x0 m).map (fun z => Sum.inr (z))) else ((d_X10_readLine x0 m).bind (fun q1 => some (Sum.inl q1)))))
noncomputable def d_X10_text_l34s (x0 : Nat) : dc_M → Option (dc_M ⊕ (Int32 × dc_M)) := fun s => d_X10_text_l34b x0 s
noncomputable def d_X10_text_l34 (x0 : Nat)  (m : dc_M) : Option (Int32 × dc_M) := dc_lp (d_X10_text_l34s x0) m
set_option maxHeartbeats 8000000 in
theorem k_X10_text_l34 {u : Nat} {Φ : (Option (Int32 × dc_M)) → Option Value → dc_M → Prop} (x0 : Nat) (kR : ∀ (v : Int32) (m : dc_M), Φ (some ((v, m))) (some (.int v)) m) : ∀ (N : Nat), ∀  (m : dc_M) (lv : ab_L), ab_lk lv 0 = some (.ref x0) → dc_pv u N ab_M_X10_text 34 lv [] m (Φ (d_X10_text_l34 x0  m)) := by
  intro N
  induction N with
  | zero => intros; exact dc_pv_zero
  | succ N ih =>
    intro m lv f0
    refine dc_ok (C := C_X10_text) (S := S_X10_text) CO_X10_text 400 34 [(0, .ref x0)] lv [] m (dc_sub_cons f0 (dc_sub_nil)) ?_
    unfold d_X10_text_l34
    rw [dc_lp_eq]
    show (fun t x => dc_lf u N ab_M_X10_text (Φ (Option.bind t (dc_bk (d_X10_text_l34s x0)))) x) (d_X10_text_l34b x0  m) _
    dsimp only
    unfold d_X10_text_l34b
    refine dg_s (pc' := 35) [.ref x0] rfl (fun _ => rfl) rfl ?_
    refine dg_s (pc' := 38) [.int (m.1 x0 15)] rfl (fun _ => rfl) rfl ?_
    refine dw_if (fun t => Φ (Option.bind t (dc_bk (d_X10_text_l34s x0)))) (¬ (Int32.toInt (m.1 x0 15)) = 0) [] 55 41 rfl (fun _ => rfl) (fun c0 => ?_) (fun c0 => ?_)
    · exact dw_j rfl (fun lv1 hv => k_X10_text_b55 (Φ := (fun t => Φ (Option.bind (t.map (fun z => Sum.inr (z))) (dc_bk (d_X10_text_l34s x0))))) x0 m (fun _a _b => kR _a _b)  (hv.1 _ rfl))
    · refine dw_g rfl ?_
      refine dg_s (pc' := 42) [.ref x0] rfl (fun _ => rfl) rfl ?_
      refine dg_s (pc' := 45) [.int (m.1 x0 19)] rfl (fun _ => rfl) rfl ?_
      refine dw_if (fun t => Φ (Option.bind t (dc_bk (d_X10_text_l34s x0)))) ((Int32.toInt (m.1 x0 19)) = 0) [] 55 48 rfl (fun _ => rfl) (fun c1 => ?_) (fun c1 => ?_)
      · exact dw_j rfl (fun lv1 hv => k_X10_text_b55 (Φ := (fun t => Φ (Option.bind (t.map (fun z => Sum.inr (z))) (dc_bk (d_X10_text_l34s x0))))) x0 m (fun _a _b => kR _a _b)  (hv.1 _ rfl))
      · refine dw_g rfl ?_
        refine dg_s (pc' := 49) [.ref x0] rfl (fun _ => rfl) rfl ?_
        refine dw_b (fun t => Φ (Option.bind t (dc_bk (d_X10_text_l34s x0)))) (pc' := 52) (fun q1 => []) (fun q1 => q1) rfl (fun _ => rfl) (fun q1 => ?_)
        refine dw_g rfl ?_
        refine dw_s (pc' := 34) [] rfl (fun _ => rfl) ?_
        exact dw_j rfl (fun lv1 hv => ih q1 lv1 (hv.1 _ rfl))
noncomputable def d_X10_text (x0 : Nat) (m : dc_M) : Option (Int32 × dc_M) :=
  ((d_X10_next x0 (dc_wi (dc_wi (dc_wi (dc_wi (dc_wi (dc_wi m x0 15 (0 : Int32)) x0 17 (0 : Int32)) x0 21 (0 : Int32)) x0 24 (0 : Int32)) x0 30 (0 : Int32)) x0 31 (0 : Int32))).bind (fun q1 => (d_X10_text_l34 x0 q1)))
set_option maxHeartbeats 8000000 in
theorem k_X10_text {u : Nat} {N : Nat} {Φ : (Option (Int32 × dc_M)) → Option Value → dc_M → Prop} (x0 : Nat) (m : dc_M) (kR : ∀ (v : Int32) (m : dc_M), Φ (some ((v, m))) (some (.int v)) m)  {lv : ab_L} (f0 : ab_lk lv 0 = some (.ref x0)) : dc_pv u N ab_M_X10_text 0 lv [] m (Φ (d_X10_text x0 m)) := by
  refine dc_pv.mono (dc_ok (C := C_X10_text) (S := S_X10_text) CO_X10_text 400 0 [(0, .ref x0)] lv [] m (dc_sub_cons f0 (dc_sub_nil)) ?_) (Nat.le_succ N)
  unfold d_X10_text
  refine dg_s (pc' := 1) [.ref x0] rfl (fun _ => rfl) rfl ?_
  refine dg_s (pc' := 2) [.int (0 : Int32), .ref x0] rfl (fun _ => rfl) rfl ?_
  refine dg_m (pc' := 5) (dc_wi m x0 15 (0 : Int32)) [] rfl (fun _ => rfl) rfl ?_
  refine dg_s (pc' := 6) [.ref x0] rfl (fun _ => rfl) rfl ?_
  refine dg_s (pc' := 7) [.int (0 : Int32), .ref x0] rfl (fun _ => rfl) rfl ?_
  refine dg_m (pc' := 10) (dc_wi (dc_wi m x0 15 (0 : Int32)) x0 17 (0 : Int32)) [] rfl (fun _ => rfl) rfl ?_
  refine dg_s (pc' := 11) [.ref x0] rfl (fun _ => rfl) rfl ?_
  refine dg_s (pc' := 12) [.int (0 : Int32), .ref x0] rfl (fun _ => rfl) rfl ?_
  refine dg_m (pc' := 15) (dc_wi (dc_wi (dc_wi m x0 15 (0 : Int32)) x0 17 (0 : Int32)) x0 21 (0 : Int32)) [] rfl (fun _ => rfl) rfl ?_
  refine dg_s (pc' := 16) [.ref x0] rfl (fun _ => rfl) rfl ?_
  refine dg_s (pc' := 17) [.int (0 : Int32), .ref x0] rfl (fun _ => rfl) rfl ?_
  refine dg_m (pc' := 20) (dc_wi (dc_wi (dc_wi (dc_wi m x0 15 (0 : Int32)) x0 17 (0 : Int32)) x0 21 (0 : Int32)) x0 24 (0 : Int32)) [] rfl (fun _ => rfl) rfl ?_
  refine dg_s (pc' := 21) [.ref x0] rfl (fun _ => rfl) rfl ?_
  refine dg_s (pc' := 22) [.int (0 : Int32), .ref x0] rfl (fun _ => rfl) rfl ?_
  refine dg_m (pc' := 25) (dc_wi (dc_wi (dc_wi (dc_wi (dc_wi m x0 15 (0 : Int32)) x0 17 (0 : Int32)) x0 21 (0 : Int32)) x0 24 (0 : Int32)) x0 30 (0 : Int32)) [] rfl (fun _ => rfl) rfl ?_
  refine dg_s (pc' := 26) [.ref x0] rfl (fun _ => rfl) rfl ?_
  refine dg_s (pc' := 27) [.int (0 : Int32), .ref x0] rfl (fun _ => rfl) rfl ?_
  refine dg_m (pc' := 30) (dc_wi (dc_wi (dc_wi (dc_wi (dc_wi (dc_wi m x0 15 (0 : Int32)) x0 17 (0 : Int32)) x0 21 (0 : Int32)) x0 24 (0 : Int32)) x0 30 (0 : Int32)) x0 31 (0 : Int32)) [] rfl (fun _ => rfl) rfl ?_
  refine dg_s (pc' := 31) [.ref x0] rfl (fun _ => rfl) rfl ?_
  refine dw_b (fun t => Φ t) (pc' := 34) (fun q1 => []) (fun q1 => q1) rfl (fun _ => rfl) (fun q1 => ?_)
  exact dw_j rfl (fun lv1 hv => k_X10_text_l34 (Φ := (fun t => Φ t)) x0 (fun _a _b => kR _a _b) N   q1 lv1 (hv.1 _ rfl))
noncomputable def H_X10_text : dc_H := fun As m k => match As with
  | [.ref x0] => (d_X10_text x0 m).bind (fun q => k (some (.int q.1)) q.2)
  | _ => dc_kz
theorem H_X10_text_ok {u : Nat} : dc_cok u 160 H_X10_text := fun M' hG N As m k P hz hP => by
  obtain rfl : ab_M_X10_text = M' := Option.some.inj hG
  unfold H_X10_text at hP
  split at hP
  · rename_i x0
    exact dc_pv.imp (k_X10_text (Φ := fun (t : Option (Int32 × dc_M)) r m' => P (t.bind (fun q => k (some (.int q.1)) q.2)) → P (k r m')) x0 m (fun _ _ h => h) rfl) (fun r m' h => h hP)
  · exact absurd hP hz
def C_X10_fault : List (Nat × dc_H) := []
theorem CO_X10_fault {u : Nat} : dc_CO u C_X10_fault := dc_CO_nil
def S_X10_fault : List (Nat × List Nat) := []
def d_X10_fault (x0 : Nat) (m : dc_M) : Int32 :=
  (m.1 x0 14)
set_option maxHeartbeats 8000000 in
theorem k_X10_fault {u : Nat} {N : Nat} {Φ : Int32 → Option Value → dc_M → Prop} (x0 : Nat) (m : dc_M) (kR : ∀ (v : Int32), Φ (v) (some (.int v)) m)  {lv : ab_L} (f0 : ab_lk lv 0 = some (.ref x0)) : dc_pv u N ab_M_X10_fault 0 lv [] m (Φ (d_X10_fault x0 m)) := by
  refine dc_pv.mono (dc_ok (C := C_X10_fault) (S := S_X10_fault) CO_X10_fault 400 0 [(0, .ref x0)] lv [] m (dc_sub_cons f0 (dc_sub_nil)) ?_) (Nat.le_succ N)
  unfold d_X10_fault
  refine dg_s (pc' := 1) [.ref x0] rfl (fun _ => rfl) rfl ?_
  refine dg_s (pc' := 4) [.int (m.1 x0 14)] rfl (fun _ => rfl) rfl ?_
  exact dw_r (some (.inl (some (.int (m.1 x0 14)), m))) rfl (fun _ => rfl) (kR _)
def H_X10_fault : dc_H := fun As m k => match As with
  | [.ref x0] => k (some (.int (d_X10_fault x0 m))) m
  | _ => dc_kz
theorem H_X10_fault_ok {u : Nat} : dc_cok u 161 H_X10_fault := fun M' hG N As m k P hz hP => by
  obtain rfl : ab_M_X10_fault = M' := Option.some.inj hG
  unfold H_X10_fault at hP
  split at hP
  · rename_i x0
    exact dc_pv.imp (k_X10_fault (Φ := fun (t : Int32) r m' => P (k (some (.int t)) m) → P (k r m')) x0 m (fun _  h => h) rfl) (fun r m' h => h hP)
  · exact absurd hP hz
