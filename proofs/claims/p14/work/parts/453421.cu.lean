/-! the reference -/
theorem aeR_v {x_w y_w : Int32} {m_w : dc_M} (b_w k_w : Nat) : (d_X10_addEvent 82 x_w y_w m_w).1 b_w k_w = if b_w = 82 ∧ k_w = 3 then m_w.1 82 3 + 1 else if b_w = 82 ∧ k_w = 10 then m_w.1 82 10 + 1 else if b_w = 90 ∧ k_w = (m_w.1 82 3).toNatClampNeg then 1 else if b_w = 89 ∧ k_w = x_w.toNatClampNeg then (1 : Int32) <<< (m_w.1 82 10 &&& 31) else if b_w = 89 ∧ k_w = (m_w.1 82 3).toNatClampNeg then m_w.1 89 x_w.toNatClampNeg else if b_w = 88 ∧ k_w = (m_w.1 82 3).toNatClampNeg then (1 : Int32) <<< (m_w.1 82 10 &&& 31) else if b_w = 87 ∧ k_w = (m_w.1 82 3).toNatClampNeg then 0 else if b_w = 86 ∧ k_w = (m_w.1 82 3).toNatClampNeg then y_w else if b_w = 85 ∧ k_w = (m_w.1 82 3).toNatClampNeg then m_w.1 82 0 else m_w.1 b_w k_w := rfl
def acM (m_w : dc_M) (x_w y_w L_w : Int32) : dc_M := dc_wi (d_X10_addEvent 82 y_w 0 (d_X10_addEvent 82 x_w 1 (dc_wi (dc_wi m_w 83 (m_w.1 82 0).toNatClampNeg L_w) 84 (m_w.1 82 0).toNatClampNeg 2))) 82 0 ((d_X10_addEvent 82 y_w 0 (d_X10_addEvent 82 x_w 1 (dc_wi (dc_wi m_w 83 (m_w.1 82 0).toNatClampNeg L_w) 84 (m_w.1 82 0).toNatClampNeg 2))).1 82 0 + 1)
theorem ac_74 {x_w y_w L_w : Int32} {m_w : dc_M} : d_X10_addCure_b74 82 x_w y_w L_w m_w = some (acM m_w x_w y_w L_w) := rfl
theorem ac_17 {x_w y_w L_w l : Int32} {m_w : dc_M} {u_w : (Int32 × Int32) ⊕ dc_M} (h0 : 0 ≤ (m_w.1 82 0).toInt) (h6 : (m_w.1 82 0).toInt ≤ 6) (h_w : d_X10_addCure_l17 82 x_w y_w L_w l 1 0 m_w = some u_w) : (fre (m_w.1 82 0) (m_w.1 83) l.toInt ∧ u_w = .inl (l, l + -1)) ∨ (¬ fre (m_w.1 82 0) (m_w.1 83) l.toInt ∧ u_w = .inl (L_w, l + -1)) := by
  unfold d_X10_addCure_l17 at h_w
  refine dc_lp_inv (s := ((1 : Int32), (0 : Int32))) (fun s : Int32 × Int32 => (0 ≤ s.2.toInt ∧ s.2.toInt ≤ (m_w.1 82 0).toInt) ∧ ((s.1.toInt = 1 ∧ ∀ j_w : Nat, (j_w : Int) < s.2.toInt → (m_w.1 83 j_w).toInt ≠ l.toInt) ∨ (s.1.toInt = 0 ∧ ¬ fre (m_w.1 82 0) (m_w.1 83) l.toInt))) (fun u_w : (Int32 × Int32) ⊕ dc_M => (fre (m_w.1 82 0) (m_w.1 83) l.toInt ∧ u_w = .inl (l, l + -1)) ∨ (¬ fre (m_w.1 82 0) (m_w.1 83) l.toInt ∧ u_w = .inl (L_w, l + -1))) (fun s s' hI hs => ?_) (fun s u_w hI hs => ?_) ⟨⟨by decide, h0⟩, Or.inl ⟨by decide, fun j_w hj => by have hj : (j_w : Int) < 0 := hj; omega⟩⟩ h_w
  · obtain ⟨⟨j0, j1⟩, j2_w⟩ := hI
    have hs : d_X10_addCure_l17b 82 x_w y_w L_w l s.1 s.2 m_w = some (.inl s') := hs
    unfold d_X10_addCure_l17b at hs
    by_cases hp : (m_w.1 82 0).toInt ≤ s.2.toInt
    · rw [if_pos hp] at hs
      cases hb_w : d_X10_addCure_b56 82 x_w y_w L_w l s.1 m_w with
      | none => rw [hb_w] at hs; cases hs
      | some z => rw [hb_w] at hs; cases hs
    · rw [if_neg hp] at hs
      have hn := cl_n j0
      have e_w : (s.2 + 1).toInt = s.2.toInt + 1 := i1 (by omega) (Int32.le_toInt _)
      by_cases hz : s.1.toInt = 0
      · rw [if_pos hz] at hs
        cases hs
        rcases j2_w with ⟨j2_w, -⟩ | j2_w
        · omega
        · refine ⟨⟨?_, ?_⟩, Or.inr ⟨rfl, j2_w.2⟩⟩
          · show 0 ≤ (s.2 + 1).toInt
            omega
          · show (s.2 + 1).toInt ≤ _
            omega
      · rw [if_neg hz] at hs
        rcases j2_w with ⟨j2_w, j3_w⟩ | ⟨j2_w, -⟩
        · by_cases hx : (m_w.1 83 s.2.toNatClampNeg).toInt = l.toInt
          · rw [if_pos (show (m_w.1 (82 + 1) s.2.toNatClampNeg).toInt = l.toInt from hx)] at hs
            cases hs
            refine ⟨⟨?_, ?_⟩, Or.inr ⟨rfl, fun f_w => f_w s.2.toNatClampNeg (by omega) hx⟩⟩
            · show 0 ≤ (s.2 + 1).toInt
              omega
            · show (s.2 + 1).toInt ≤ _
              omega
          · rw [if_neg (show ¬ (m_w.1 (82 + 1) s.2.toNatClampNeg).toInt = l.toInt from hx)] at hs
            cases hs
            refine ⟨⟨?_, ?_⟩, Or.inl ⟨rfl, fun j_w hj => ?_⟩⟩
            · show 0 ≤ (s.2 + 1).toInt
              omega
            · show (s.2 + 1).toInt ≤ _
              omega
            · have hj : (j_w : Int) < (s.2 + 1).toInt := hj
              by_cases hj2 : (j_w : Int) < s.2.toInt
              · exact j3_w j_w hj2
              · rw [show j_w = s.2.toNatClampNeg by omega]; exact hx
        · exact absurd j2_w hz
  · obtain ⟨⟨j0, j1⟩, j2_w⟩ := hI
    have hs : d_X10_addCure_l17b 82 x_w y_w L_w l s.1 s.2 m_w = some (.inr u_w) := hs
    unfold d_X10_addCure_l17b at hs
    by_cases hp : (m_w.1 82 0).toInt ≤ s.2.toInt
    · rw [if_pos hp] at hs
      unfold d_X10_addCure_b56 at hs
      rcases j2_w with ⟨j2_w, j3_w⟩ | ⟨j2_w, j3_w⟩
      · rw [if_neg (show ¬ s.1.toInt = 0 by omega)] at hs
        have hs := Sum.inr.inj (Option.some.inj hs)
        exact Or.inl ⟨fun j_w hj => j3_w j_w (by omega), hs.symm⟩
      · rw [if_pos j2_w] at hs
        have hs := Sum.inr.inj (Option.some.inj hs)
        exact Or.inr ⟨j3_w, hs.symm⟩
    · rw [if_neg hp] at hs
      by_cases hz : s.1.toInt = 0
      · rw [if_pos hz] at hs; cases hs
      · rw [if_neg hz] at hs
        split at hs <;> cases hs
theorem ac_run {x_w y_w : Int32} {m_w e_w : dc_M} (h0 : 0 ≤ (m_w.1 82 0).toInt) (h6 : (m_w.1 82 0).toInt < 6) (h_w : d_X10_addCure 82 x_w y_w m_w = some e_w) : ∃ L_w : Int32, flr (m_w.1 82 0) (m_w.1 83) L_w.toInt ∧ e_w = acM m_w x_w y_w L_w := by
  obtain ⟨s0_w, hs0, hf0⟩ := fre_ex h6 (m_w.1 83)
  unfold d_X10_addCure d_X10_addCure_l6 at h_w
  refine dc_lp_inv (s := ((0 : Int32), (25 : Int32))) (fun s : Int32 × Int32 => (-1 ≤ s.2.toInt ∧ s.2.toInt ≤ 25) ∧ ((∀ k_w : Int, s.2.toInt < k_w → k_w ≤ 25 → ¬ fre (m_w.1 82 0) (m_w.1 83) k_w) ∨ (s.2.toInt < s.1.toInt ∧ fre (m_w.1 82 0) (m_w.1 83) s.1.toInt ∧ ∀ k_w : Int, s.2.toInt < k_w → k_w < s.1.toInt → ¬ fre (m_w.1 82 0) (m_w.1 83) k_w))) (fun e_w : dc_M => ∃ L_w : Int32, flr (m_w.1 82 0) (m_w.1 83) L_w.toInt ∧ e_w = acM m_w x_w y_w L_w) (fun s s' hI hs => ?_) (fun s e_w hI hs => ?_) ⟨⟨by decide, by decide⟩, Or.inl (fun k_w h1 h2 => by have h1 : (25 : Int) < k_w := h1; omega)⟩ h_w
  · obtain ⟨⟨j0, j1⟩, j2_w⟩ := hI
    have hs : d_X10_addCure_l6b 82 x_w y_w s.1 s.2 m_w = some (.inl s') := hs
    unfold d_X10_addCure_l6b at hs
    by_cases hp : s.2.toInt < 0
    · rw [if_pos hp, ac_74] at hs
      cases hs
    · rw [if_neg hp] at hs
      have e_w : (s.2 + -1).toInt = s.2.toInt - 1 := by
        rw [Int32.toInt_add, show (-1 : Int32).toInt = -1 from rfl, sx_bm (by omega) (by omega)]
        omega
      rcases ac_17 h0 (by omega) hs with ⟨f_w, hu⟩ | ⟨f_w, hu⟩
      · have hu := Sum.inl.inj hu
        rw [hu]
        refine ⟨⟨?_, ?_⟩, Or.inr ⟨?_, f_w, fun k_w h1 h2 => ?_⟩⟩
        · show -1 ≤ (s.2 + -1).toInt
          omega
        · show (s.2 + -1).toInt ≤ 25
          omega
        · show (s.2 + -1).toInt < s.2.toInt
          omega
        · have h1 : (s.2 + -1).toInt < k_w := h1
          have h2 : k_w < s.2.toInt := h2
          omega
      · have hu := Sum.inl.inj hu
        rw [hu]
        refine ⟨⟨?_, ?_⟩, ?_⟩
        · show -1 ≤ (s.2 + -1).toInt
          omega
        · show (s.2 + -1).toInt ≤ 25
          omega
        · rcases j2_w with j2_w | ⟨j2_w, j3_w, j4_w⟩
          · refine Or.inl (fun k_w h1 h2 => ?_)
            have h1 : (s.2 + -1).toInt < k_w := h1
            by_cases hk : s.2.toInt < k_w
            · exact j2_w k_w hk h2
            · rw [show k_w = s.2.toInt by omega]; exact f_w
          · refine Or.inr ⟨?_, j3_w, fun k_w h1 h2 => ?_⟩
            · show (s.2 + -1).toInt < s.1.toInt
              omega
            · have h1 : (s.2 + -1).toInt < k_w := h1
              by_cases hk : s.2.toInt < k_w
              · exact j4_w k_w hk h2
              · rw [show k_w = s.2.toInt by omega]; exact f_w
  · obtain ⟨⟨j0, j1⟩, j2_w⟩ := hI
    have hs : d_X10_addCure_l6b 82 x_w y_w s.1 s.2 m_w = some (.inr e_w) := hs
    unfold d_X10_addCure_l6b at hs
    by_cases hp : s.2.toInt < 0
    · rw [if_pos hp, ac_74] at hs
      have hs := Sum.inr.inj (Option.some.inj hs)
      refine ⟨s.1, ?_, hs.symm⟩
      rcases j2_w with j2_w | ⟨j2_w, j3_w, j4_w⟩
      · exact absurd hf0 (j2_w s0_w (by omega) (by omega))
      · exact ⟨by omega, j3_w, fun k_w h1 h2 => j4_w k_w (by omega) h2⟩
    · rw [if_neg hp] at hs
      rcases ac_17 h0 (by omega) hs with ⟨f_w, hu⟩ | ⟨f_w, hu⟩
      · cases hu
      · cases hu
