/-! ===== a_w wire more, on both sides ===== -/
theorem phole_ : ∀ (n_w : Nat) (g_w : Nat → Nat), (∀ s, s ≤ n_w → g_w s < n_w) → ∃ s t_w, s < t_w ∧ t_w ≤ n_w ∧ g_w s = g_w t_w
  | 0, g_w, h_w => absurd (h_w 0 (Nat.le_refl _)) (Nat.not_lt_zero _)
  | n_w + 1, g_w, h_w => by
    by_cases hx : ∃ s, s < n_w + 1 ∧ g_w s = g_w (n_w + 1)
    · obtain ⟨s, h1, h2⟩ := hx
      exact ⟨s, n_w + 1, h1, Nat.le_refl _, h2⟩
    · have hx' : ∀ s, s < n_w + 1 → g_w s ≠ g_w (n_w + 1) := fun s h1 h2 => hx ⟨s, h1, h2⟩
      obtain ⟨s, t_w, h1, h2, h3⟩ := phole_ n_w (fun s => if g_w s = n_w then g_w (n_w + 1) else g_w s) (fun s hs => by
        show (if g_w s = n_w then g_w (n_w + 1) else g_w s) < n_w
        have a_w := h_w s (by omega)
        have b_w := h_w (n_w + 1) (Nat.le_refl _)
        have c_w := hx' s (by omega)
        split <;> omega)
      refine ⟨s, t_w, h1, by omega, ?_⟩
      have h3 : (if g_w s = n_w then g_w (n_w + 1) else g_w s) = (if g_w t_w = n_w then g_w (n_w + 1) else g_w t_w) := h3
      have c1_w := hx' s (by omega)
      have c2_w := hx' t_w (by omega)
      split at h3 <;> split at h3 <;> omega
/-- a_w letter that is no wire -/
def fre (W_w : Int32) (f_w : Nat → Int32) (s : Int) : Prop := ∀ j_w : Nat, (j_w : Int) < W_w.toInt → (f_w j_w).toInt ≠ s
theorem fre_ex {W_w : Int32} (hW : W_w.toInt < 6) (f_w : Nat → Int32) : ∃ s : Nat, s < 6 ∧ fre W_w f_w s := by
  apply Classical.byContradiction
  intro hn
  have h_w : ∀ s : Nat, s ≤ 5 → ∃ j_w : Nat, (j_w : Int) < W_w.toInt ∧ (f_w j_w).toInt = s := fun s hs => Classical.byContradiction (fun q_w => hn ⟨s, by omega, fun j_w hj e_w => q_w ⟨j_w, hj, e_w⟩⟩)
  have hc_w : ∀ s : Nat, ∃ j_w : Nat, s ≤ 5 → (j_w : Int) < W_w.toInt ∧ (f_w j_w).toInt = s := fun s => by
    by_cases hs : s ≤ 5
    · obtain ⟨j_w, hj⟩ := h_w s hs
      exact ⟨j_w, fun _ => hj⟩
    · exact ⟨0, fun q_w => absurd q_w hs⟩
  have hg := fun s => (hc_w s).choose_spec
  obtain ⟨s, t_w, h1, h2, h3⟩ := phole_ 5 (fun s => (hc_w s).choose) (fun s hs => by
    have := (hg s hs).1
    show (hc_w s).choose < 5
    omega)
  have h3 : (hc_w s).choose = (hc_w t_w).choose := h3
  have a_w := (hg s (by omega)).2
  have b_w := (hg t_w h2).2
  rw [h3] at a_w
  omega
theorem wq_run {a_w : Nat} {x_w q_w : Int32} {c_w : dc_M} (h0 : 0 ≤ (c_w.1 a_w 0).toInt) (h6 : (c_w.1 a_w 0).toInt ≤ 6) (h_w : d_X3_wireCalled a_w x_w c_w = some q_w) : (q_w.toInt < 0 ∧ fre (c_w.1 a_w 0) (c_w.1 (a_w + 1)) x_w.toInt) ∨ (0 ≤ q_w.toInt ∧ ¬ fre (c_w.1 a_w 0) (c_w.1 (a_w + 1)) x_w.toInt) := by
  unfold d_X3_wireCalled d_X3_wireCalled_l2 at h_w
  refine dc_lp_inv (s := (0 : Int32)) (fun s : Int32 => 0 ≤ s.toInt ∧ s.toInt ≤ (c_w.1 a_w 0).toInt ∧ ∀ j_w : Nat, (j_w : Int) < s.toInt → (c_w.1 (a_w + 1) j_w).toInt ≠ x_w.toInt) (fun q_w : Int32 => (q_w.toInt < 0 ∧ fre (c_w.1 a_w 0) (c_w.1 (a_w + 1)) x_w.toInt) ∨ (0 ≤ q_w.toInt ∧ ¬ fre (c_w.1 a_w 0) (c_w.1 (a_w + 1)) x_w.toInt)) (fun s s' hI hs => ?_) (fun s q_w hI hs => ?_) ⟨by decide, h0, fun j_w hj => by have hj : (j_w : Int) < 0 := hj; omega⟩ h_w
  · obtain ⟨j0, j1, j2_w⟩ := hI
    have hs : d_X3_wireCalled_l2b a_w x_w s c_w = some (.inl s') := hs
    unfold d_X3_wireCalled_l2b at hs
    by_cases hp : (c_w.1 a_w 0).toInt ≤ s.toInt
    · rw [if_pos hp] at hs; cases hs
    · rw [if_neg hp] at hs
      have hn := cl_n j0
      by_cases hx : (c_w.1 (a_w + 1) s.toNatClampNeg).toInt = x_w.toInt
      · rw [if_neg (fun z_w => z_w hx)] at hs; cases hs
      · rw [if_pos hx] at hs
        cases hs
        have e_w : (s + 1).toInt = s.toInt + 1 := i1 (by omega) (Int32.le_toInt _)
        refine ⟨by omega, by omega, fun j_w hj => ?_⟩
        by_cases hj2 : (j_w : Int) < s.toInt
        · exact j2_w j_w hj2
        · rw [show j_w = s.toNatClampNeg by omega]; exact hx
  · obtain ⟨j0, j1, j2_w⟩ := hI
    have hs : d_X3_wireCalled_l2b a_w x_w s c_w = some (.inr q_w) := hs
    unfold d_X3_wireCalled_l2b at hs
    by_cases hp : (c_w.1 a_w 0).toInt ≤ s.toInt
    · rw [if_pos hp] at hs
      cases hs
      exact Or.inl ⟨by decide, fun j_w hj => j2_w j_w (by omega)⟩
    · rw [if_neg hp] at hs
      have hn := cl_n j0
      by_cases hx : (c_w.1 (a_w + 1) s.toNatClampNeg).toInt = x_w.toInt
      · rw [if_neg (fun z_w => z_w hx)] at hs
        cases hs
        exact Or.inr ⟨j0, fun f_w => f_w s.toNatClampNeg (by omega) hx⟩
      · rw [if_pos hx] at hs; cases hs
/-- the first letter that is no wire -/
def flr (W_w : Int32) (f_w : Nat → Int32) (q_w : Int) : Prop := 0 ≤ q_w ∧ fre W_w f_w q_w ∧ ∀ k_w : Int, 0 ≤ k_w → k_w < q_w → ¬ fre W_w f_w k_w
theorem flr_eq {W_w : Int32} {f_w : Nat → Int32} {q_w q' : Int} (h_w : flr W_w f_w q_w) (h' : flr W_w f_w q') : q_w = q' := by
  obtain ⟨a_w, b_w, d_w⟩ := h_w
  obtain ⟨a', b', d'⟩ := h'
  by_cases h1 : q_w < q'
  · exact absurd b_w (d' q_w a_w h1)
  · by_cases h2 : q' < q_w
    · exact absurd b' (d_w q' a' h2)
    · omega
theorem fl_run {a_w : Nat} {q_w : Int32} {c_w : dc_M} (h0 : 0 ≤ (c_w.1 a_w 0).toInt) (h6 : (c_w.1 a_w 0).toInt < 6) (h_w : d_X3_freeLetter a_w c_w = some q_w) : flr (c_w.1 a_w 0) (c_w.1 (a_w + 1)) q_w.toInt := by
  obtain ⟨s0_w, hs0, hf0⟩ := fre_ex h6 (c_w.1 (a_w + 1))
  unfold d_X3_freeLetter d_X3_freeLetter_l2 at h_w
  refine dc_lp_inv (s := (0 : Int32)) (fun s : Int32 => 0 ≤ s.toInt ∧ ∀ k_w : Int, 0 ≤ k_w → k_w < s.toInt → ¬ fre (c_w.1 a_w 0) (c_w.1 (a_w + 1)) k_w) (fun q_w : Int32 => flr (c_w.1 a_w 0) (c_w.1 (a_w + 1)) q_w.toInt) (fun s s' hI hs => ?_) (fun s q_w hI hs => ?_) ⟨by decide, fun k_w h1 h2 => by have h2 : k_w < 0 := h2; omega⟩ h_w
  · obtain ⟨j0, j2_w⟩ := hI
    have hs : d_X3_freeLetter_l2b a_w s c_w = some (.inl s') := hs
    unfold d_X3_freeLetter_l2b at hs
    by_cases hp : 26 ≤ s.toInt
    · exact absurd hf0 (j2_w s0_w (by omega) (by omega))
    · rw [if_neg hp] at hs
      cases hw : d_X3_wireCalled a_w s c_w with
      | none => rw [hw] at hs; cases hs
      | some w =>
        rw [hw, Option.bind_some] at hs
        rcases wq_run h0 (by omega) hw with ⟨w1_w, w2_w⟩ | ⟨w1_w, w2_w⟩
        · rw [if_neg (by omega)] at hs; cases hs
        · rw [if_pos w1_w] at hs
          cases hs
          have e_w : (s + 1).toInt = s.toInt + 1 := i1 (by omega) (Int32.le_toInt _)
          refine ⟨by omega, fun k_w h1 h2 => ?_⟩
          by_cases hk : k_w < s.toInt
          · exact j2_w k_w h1 hk
          · rw [show k_w = s.toInt by omega]; exact w2_w
  · obtain ⟨j0, j2_w⟩ := hI
    have hs : d_X3_freeLetter_l2b a_w s c_w = some (.inr q_w) := hs
    unfold d_X3_freeLetter_l2b at hs
    by_cases hp : 26 ≤ s.toInt
    · exact absurd hf0 (j2_w s0_w (by omega) (by omega))
    · rw [if_neg hp] at hs
      cases hw : d_X3_wireCalled a_w s c_w with
      | none => rw [hw] at hs; cases hs
      | some w =>
        rw [hw, Option.bind_some] at hs
        rcases wq_run h0 (by omega) hw with ⟨w1_w, w2_w⟩ | ⟨w1_w, w2_w⟩
        · rw [if_neg (by omega)] at hs
          cases hs
          exact ⟨j0, w2_w, j2_w⟩
        · rw [if_pos w1_w] at hs; cases hs
