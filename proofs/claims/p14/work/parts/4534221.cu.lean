/-! the class: all that one event fed is fed by another -/
theorem ho_eq {a_w : Nat} {x_w y_w : Int32} {c_w : dc_M} : d_X3_handOver a_w x_w y_w c_w = d_X3_handOver_l2 a_w x_w y_w 0 c_w := rfl
def mvB (x_w y_w F_w : Int32) : Int32 := if b32 F_w x_w.toNatClampNeg = true then (F_w &&& (((1 : Int32) <<< (x_w &&& 31)) ^^^ -1)) ||| ((1 : Int32) <<< (y_w &&& 31)) else F_w
def hoM (a_w : Nat) (c_w : dc_M) (x_w y_w : Int32) : dc_M := dc_wi (dc_wi c_w (a_w + 7) y_w.toNatClampNeg (c_w.1 (a_w + 7) x_w.toNatClampNeg)) (a_w + 7) x_w.toNatClampNeg 0
theorem hoM_eq {a_w : Nat} {x_w y_w : Int32} {c_w : dc_M} : d_X3_handOver_b51 a_w x_w y_w c_w = (d_X3_addPlace a_w ((1 : Int32) <<< (x_w &&& 31)) ((1 : Int32) <<< (y_w &&& 31)) 0 (hoM a_w c_w x_w y_w)).bind (fun q_w => some q_w) := rfl
theorem ho_loop {a_w : Nat} {x_w y_w : Int32} {c_w e_w : dc_M} (hx : 0 ≤ x_w.toInt ∧ x_w.toInt < 32) (p0_w : 0 ≤ (c_w.1 a_w 2).toInt) (p20 : (c_w.1 a_w 2).toInt ≤ 20) (h_w : d_X3_handOver a_w x_w y_w c_w = some e_w) : ∃ c1 : dc_M, c1.2 = c_w.2 ∧ (∀ b_w k_w : Nat, c1.1 b_w k_w = if b_w = a_w + 9 ∧ (k_w : Int) < (c_w.1 a_w 2).toInt then mvB x_w y_w (c_w.1 (a_w + 9) k_w) else c_w.1 b_w k_w) ∧ d_X3_handOver_b51 a_w x_w y_w c1 = some e_w := by
  rw [ho_eq] at h_w
  unfold d_X3_handOver_l2 at h_w
  refine dc_lp_inv (s := ((0 : Int32), c_w)) (fun s : Int32 × dc_M => (0 ≤ s.1.toInt ∧ s.1.toInt ≤ (c_w.1 a_w 2).toInt) ∧ s.2.2 = c_w.2 ∧ ∀ b_w k_w : Nat, s.2.1 b_w k_w = if b_w = a_w + 9 ∧ (k_w : Int) < s.1.toInt then mvB x_w y_w (c_w.1 (a_w + 9) k_w) else c_w.1 b_w k_w) (fun e_w : dc_M => ∃ c1 : dc_M, c1.2 = c_w.2 ∧ (∀ b_w k_w : Nat, c1.1 b_w k_w = if b_w = a_w + 9 ∧ (k_w : Int) < (c_w.1 a_w 2).toInt then mvB x_w y_w (c_w.1 (a_w + 9) k_w) else c_w.1 b_w k_w) ∧ d_X3_handOver_b51 a_w x_w y_w c1 = some e_w) (fun s s' hI hs => ?_) (fun s e_w hI hs => ?_) ⟨⟨show (0 : Int) ≤ (0 : Int32).toInt by decide, p0_w⟩, rfl, fun b_w k_w => ?_⟩ h_w
  · obtain ⟨⟨j0, j1⟩, j2_w, j3_w⟩ := hI
    obtain ⟨p_w, s⟩ := s
    have j0 : 0 ≤ p_w.toInt := j0
    have j1 : p_w.toInt ≤ (c_w.1 a_w 2).toInt := j1
    have j3_w : ∀ b_w k_w : Nat, s.1 b_w k_w = if b_w = a_w + 9 ∧ (k_w : Int) < p_w.toInt then mvB x_w y_w (c_w.1 (a_w + 9) k_w) else c_w.1 b_w k_w := j3_w
    have hs : d_X3_handOver_l2b a_w x_w y_w p_w s = some (.inl s') := hs
    unfold d_X3_handOver_l2b at hs
    have ja : s.1 a_w 2 = c_w.1 a_w 2 := by rw [j3_w, if_neg (by omega)]
    rw [ja] at hs
    by_cases hp : (c_w.1 a_w 2).toInt ≤ p_w.toInt
    · rw [if_pos hp] at hs
      cases hb_w : d_X3_handOver_b51 a_w x_w y_w s with
      | none => rw [hb_w] at hs; cases hs
      | some z_w => rw [hb_w] at hs; cases hs
    · rw [if_neg hp] at hs
      have hn := cl_n j0
      have e1_w : (p_w + 1).toInt = p_w.toInt + 1 := i1 (by omega) (Int32.le_toInt _)
      have v9 : s.1 (a_w + 9) p_w.toNatClampNeg = c_w.1 (a_w + 9) p_w.toNatClampNeg := by rw [j3_w, if_neg (by omega)]
      rw [v9] at hs
      by_cases hb_w : b32 (c_w.1 (a_w + 9) p_w.toNatClampNeg) x_w.toNatClampNeg = false
      · rw [if_pos ((b32_t hx).mpr hb_w)] at hs
        cases hs
        refine ⟨⟨by show 0 ≤ (p_w + 1).toInt; omega, by show (p_w + 1).toInt ≤ _; omega⟩, j2_w, fun b_w k_w => ?_⟩
        show s.1 b_w k_w = if b_w = a_w + 9 ∧ (k_w : Int) < (p_w + 1).toInt then mvB x_w y_w (c_w.1 (a_w + 9) k_w) else c_w.1 b_w k_w
        by_cases z_w : b_w = a_w + 9 ∧ k_w = p_w.toNatClampNeg
        · obtain ⟨rfl, rfl⟩ := z_w
          rw [v9, if_pos ⟨rfl, by omega⟩]
          unfold mvB
          rw [if_neg (by rw [hb_w]; decide)]
        · rw [j3_w]
          by_cases w_w : b_w = a_w + 9 ∧ (k_w : Int) < p_w.toInt
          · rw [if_pos w_w, if_pos (by omega)]
          · rw [if_neg w_w, if_neg (by omega)]
      · rw [if_neg (fun q_w => hb_w ((b32_t hx).mp q_w))] at hs
        cases hs
        refine ⟨⟨by show 0 ≤ (p_w + 1).toInt; omega, by show (p_w + 1).toInt ≤ _; omega⟩, j2_w, fun b_w k_w => ?_⟩
        show (dc_wi s (a_w + 9) p_w.toNatClampNeg _).1 b_w k_w = if b_w = a_w + 9 ∧ (k_w : Int) < (p_w + 1).toInt then mvB x_w y_w (c_w.1 (a_w + 9) k_w) else c_w.1 b_w k_w
        by_cases z_w : b_w = a_w + 9 ∧ k_w = p_w.toNatClampNeg
        · obtain ⟨rfl, rfl⟩ := z_w
          rw [wi_s, if_pos ⟨rfl, by omega⟩]
          unfold mvB
          rw [if_pos (eq_true_of_ne_false hb_w)]
        · rw [wi_k z_w, j3_w]
          by_cases w_w : b_w = a_w + 9 ∧ (k_w : Int) < p_w.toInt
          · rw [if_pos w_w, if_pos (by omega)]
          · rw [if_neg w_w, if_neg (by omega)]
  · obtain ⟨⟨j0, j1⟩, j2_w, j3_w⟩ := hI
    obtain ⟨p_w, s⟩ := s
    have j0 : 0 ≤ p_w.toInt := j0
    have j1 : p_w.toInt ≤ (c_w.1 a_w 2).toInt := j1
    have j3_w : ∀ b_w k_w : Nat, s.1 b_w k_w = if b_w = a_w + 9 ∧ (k_w : Int) < p_w.toInt then mvB x_w y_w (c_w.1 (a_w + 9) k_w) else c_w.1 b_w k_w := j3_w
    have hs : d_X3_handOver_l2b a_w x_w y_w p_w s = some (.inr e_w) := hs
    unfold d_X3_handOver_l2b at hs
    have ja : s.1 a_w 2 = c_w.1 a_w 2 := by rw [j3_w, if_neg (by omega)]
    rw [ja] at hs
    by_cases hp : (c_w.1 a_w 2).toInt ≤ p_w.toInt
    · rw [if_pos hp] at hs
      cases hb_w : d_X3_handOver_b51 a_w x_w y_w s with
      | none => rw [hb_w] at hs; cases hs
      | some z_w =>
        rw [hb_w] at hs
        have hs := Sum.inr.inj (Option.some.inj hs)
        rw [← hs]
        exact ⟨s, j2_w, fun b_w k_w => by rw [j3_w, show p_w.toInt = (c_w.1 a_w 2).toInt by omega], hb_w⟩
    · rw [if_neg hp] at hs
      split at hs <;> cases hs
  · rw [if_neg (by show ¬ (b_w = a_w + 9 ∧ (k_w : Int) < (0 : Int32).toInt); rw [show (0 : Int32).toInt = 0 from rfl]; omega)]
