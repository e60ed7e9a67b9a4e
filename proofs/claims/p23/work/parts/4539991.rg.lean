/-! ===== longest ways between all, in place (no machine here) ===== -/
def FRW : Int := -1000000000000
def prw (a_w b_w a' b' : Nat) : Prop := a' < a_w ∨ (a' = a_w ∧ b' < b_w)
/-- what a_w cell_w is behind round M_w -/
def RXw (V W_w : Nat → Nat → Int) (M_w a_w b_w : Nat) : Prop := (V a_w M_w ≠ FRW → V M_w b_w ≠ FRW → V a_w M_w + V M_w b_w ≤ W_w a_w b_w) ∧ (W_w a_w b_w = V a_w b_w ∨ (V a_w M_w ≠ FRW ∧ V M_w b_w ≠ FRW ∧ W_w a_w b_w = V a_w M_w + V M_w b_w))
/-- a_w round, as far as it has come -/
def IRw (WT : Nat → Nat → Int → Prop) (E_w M_w : Nat) (U_w L_w : Int) (V W_w : Nat → Nat → Int) (a_w b_w : Nat) : Prop := (∀ a' b', a' < E_w → b' < E_w → ¬ prw a_w b_w a' b' → W_w a' b' = V a' b') ∧ (∀ a' b', a' < E_w → b' < E_w → (W_w a' b' = FRW ∨ (-(2 * L_w) ≤ W_w a' b' ∧ W_w a' b' ≤ 6 * U_w ∧ WT a' b' (W_w a' b'))) ∧ V a' b' ≤ W_w a' b') ∧ (∀ a', a' < E_w → (V a' M_w = FRW → W_w a' M_w = FRW) ∧ W_w a' M_w ≤ 3 * U_w) ∧ (∀ b', b' < E_w → (V M_w b' = FRW → W_w M_w b' = FRW) ∧ W_w M_w b' ≤ 3 * U_w) ∧ W_w M_w M_w ≤ 2 * U_w ∧ (V M_w M_w ≤ 0 → (∀ a', a' < E_w → W_w a' M_w = V a' M_w) ∧ (∀ b', b' < E_w → W_w M_w b' = V M_w b') ∧ ∀ a' b', a' < E_w → b' < E_w → prw a_w b_w a' b' → RXw V W_w M_w a' b')
/-- what holds between rounds -/
def MRw (WT : Nat → Nat → Int → Prop) (E_w : Nat) (U_w L_w : Int) (V : Nat → Nat → Int) : Prop := ∀ a_w b_w, a_w < E_w → b_w < E_w → V a_w b_w = FRW ∨ (-L_w ≤ V a_w b_w ∧ V a_w b_w ≤ U_w ∧ WT a_w b_w (V a_w b_w))
theorem IRw.bw {WT : Nat → Nat → Int → Prop} {E_w M_w : Nat} {U_w L_w : Int} {V : Nat → Nat → Int} (hM_w : M_w < E_w) (hU : 0 ≤ U_w) (hL : 0 ≤ L_w ∧ L_w ≤ 200000000000) (h_w : MRw WT E_w U_w L_w V) : IRw WT E_w M_w U_w L_w V V 0 0 := by
  have hF : FRW = -1000000000000 := rfl
  refine ⟨fun _ _ _ _ _ => rfl, fun a' b' h1 h2 => ⟨?_, Int.le_refl _⟩, fun a' h1 => ⟨id, ?_⟩, fun b' h1 => ⟨id, ?_⟩, ?_, fun _ => ⟨fun _ _ => rfl, fun _ _ => rfl, fun a' b' _ _ p_w => ?_⟩⟩
  · rcases h_w a' b' h1 h2 with q_w | ⟨q1_w, q2_w, q3_w⟩
    · exact Or.inl q_w
    · exact Or.inr ⟨by omega, by omega, q3_w⟩
  · rcases h_w a' M_w h1 hM_w with q_w | ⟨q1_w, q2_w, -⟩ <;> omega
  · rcases h_w M_w b' hM_w h1 with q_w | ⟨q1_w, q2_w, -⟩ <;> omega
  · rcases h_w M_w M_w hM_w hM_w with q_w | ⟨q1_w, q2_w, -⟩ <;> omega
  · unfold prw at p_w
    omega
theorem IRw.sw {WT : Nat → Nat → Int → Prop} {E_w M_w : Nat} {U_w L_w : Int} {V W_w W' : Nat → Nat → Int} {a_w b_w : Nat} (hT_w : ∀ a_w k b_w u v_w, WT a_w k u → WT k b_w v_w → WT a_w b_w (u + v_w)) (hM_w : M_w < E_w) (ha_w : a_w < E_w) (hb_w : b_w < E_w) (hU : 0 ≤ U_w) (hL : 0 ≤ L_w ∧ L_w ≤ 200000000000) (hV : MRw WT E_w U_w L_w V) (I_w : IRw WT E_w M_w U_w L_w V W_w a_w b_w) (h1 : ∀ a' b', a' < E_w → b' < E_w → ¬ (a' = a_w ∧ b' = b_w) → W' a' b' = W_w a' b') (h2 : W' a_w b_w = if FRW / 2 < W_w a_w M_w ∧ FRW / 2 < W_w M_w b_w ∧ W_w a_w b_w < W_w a_w M_w + W_w M_w b_w then W_w a_w M_w + W_w M_w b_w else W_w a_w b_w) : IRw WT E_w M_w U_w L_w V W' a_w (b_w + 1) := by
  have hF : FRW = -1000000000000 := rfl
  have hF2 : FRW / 2 = -500000000000 := rfl
  rw [hF2] at h2
  obtain ⟨i1_w, i2_w, i3_w, i4_w, i5_w, i6_w⟩ := I_w
  have un : W_w a_w b_w = V a_w b_w := i1_w a_w b_w ha_w hb_w (by unfold prw; omega)
  have f1_w : W_w a_w M_w ≠ FRW → -L_w ≤ W_w a_w M_w := fun q_w => by
    have := (i2_w a_w M_w ha_w hM_w).2
    rcases hV a_w M_w ha_w hM_w with r_w | ⟨r_w, -⟩
    · exact absurd ((i3_w a_w ha_w).1 r_w) q_w
    · omega
  have f2_w : W_w M_w b_w ≠ FRW → -L_w ≤ W_w M_w b_w := fun q_w => by
    have := (i2_w M_w b_w hM_w hb_w).2
    rcases hV M_w b_w hM_w hb_w with r_w | ⟨r_w, -⟩
    · exact absurd ((i4_w b_w hb_w).1 r_w) q_w
    · omega
  have f3_w := (i3_w a_w ha_w).2
  have f4_w := (i4_w b_w hb_w).2
  have vab : V a_w b_w ≤ U_w := by
    rcases hV a_w b_w ha_w hb_w with q_w | ⟨-, q_w, -⟩ <;> omega
  -- the new_w value
  have nv : (W' a_w b_w = FRW ∨ (-(2 * L_w) ≤ W' a_w b_w ∧ W' a_w b_w ≤ 6 * U_w ∧ WT a_w b_w (W' a_w b_w))) ∧ V a_w b_w ≤ W' a_w b_w := by
    rw [h2]
    by_cases c_w : -500000000000 < W_w a_w M_w ∧ -500000000000 < W_w M_w b_w ∧ W_w a_w b_w < W_w a_w M_w + W_w M_w b_w
    · rw [if_pos c_w]
      have g1 : W_w a_w M_w ≠ FRW := by omega
      have g2 : W_w M_w b_w ≠ FRW := by omega
      have e1_w := f1_w g1
      have e2_w := f2_w g2
      refine ⟨Or.inr ⟨by omega, by omega, ?_⟩, by omega⟩
      have t1_w := ((i2_w a_w M_w ha_w hM_w).1.resolve_left g1).2.2
      have t2_w := ((i2_w M_w b_w hM_w hb_w).1.resolve_left g2).2.2
      exact hT_w a_w M_w b_w _ _ t1_w t2_w
    · rw [if_neg c_w]
      exact i2_w a_w b_w ha_w hb_w
  have low_w : ¬ (W_w a_w M_w ≠ FRW ∧ W_w M_w b_w ≠ FRW) → W' a_w b_w = W_w a_w b_w := fun q_w => by
    rw [h2, if_neg (fun c_w => q_w ⟨by omega, by omega⟩)]
  have cell_w : ∀ a' b', a' < E_w → b' < E_w → (a' = a_w ∧ b' = b_w) ∨ W' a' b' = W_w a' b' := fun a' b' q1_w q2_w => by
    by_cases e_w : a' = a_w ∧ b' = b_w
    · exact Or.inl e_w
    · exact Or.inr (h1 a' b' q1_w q2_w e_w)
  refine ⟨fun a' b' q1_w q2_w q3_w => ?_, fun a' b' q1_w q2_w => ?_, fun a' q1_w => ?_, fun b' q1_w => ?_, ?_, fun v0_w => ?_⟩
  · rw [h1 a' b' q1_w q2_w (by unfold prw at q3_w; omega)]
    exact i1_w a' b' q1_w q2_w (by unfold prw at q3_w ⊢; omega)
  · rcases cell_w a' b' q1_w q2_w with ⟨e1_w, e2_w⟩ | e_w
    · rw [e1_w, e2_w]; exact nv
    · rw [e_w]; exact i2_w a' b' q1_w q2_w
  · rcases cell_w a' M_w q1_w hM_w with ⟨e1_w, e2_w⟩ | e_w
    · subst e1_w
      subst e2_w
      refine ⟨fun r_w => ?_, ?_⟩
      · have z_w := (i3_w a' ha_w).1 r_w
        rw [low_w (fun q_w => q_w.1 z_w)]
        exact z_w
      · rw [h2]
        split
        · rw [un]
          omega
        · omega
    · rw [e_w]; exact i3_w a' q1_w
  · rcases cell_w M_w b' hM_w q1_w with ⟨e1_w, e2_w⟩ | e_w
    · subst e1_w
      subst e2_w
      refine ⟨fun r_w => ?_, ?_⟩
      · have z_w := (i4_w b' hb_w).1 r_w
        rw [low_w (fun q_w => q_w.2 z_w)]
        exact z_w
      · rw [h2]
        split
        · rw [un]
          omega
        · omega
    · rw [e_w]; exact i4_w b' q1_w
  · rcases cell_w M_w M_w hM_w hM_w with ⟨e1_w, e2_w⟩ | e_w
    · subst e1_w
      subst e2_w
      rw [h2]
      split
      · rw [un]
        omega
      · omega
    · rw [e_w]; exact i5_w
  · obtain ⟨j1, j2_w, j3_w⟩ := i6_w v0_w
    have keepc : ∀ a', a' < E_w → W' a' M_w = V a' M_w := fun a' q1_w => by
      rcases cell_w a' M_w q1_w hM_w with ⟨e1_w, e2_w⟩ | e_w
      · subst e1_w
        subst e2_w
        rw [h2, j1 a' ha_w, j1 M_w hM_w, if_neg (by omega)]
      · rw [e_w]; exact j1 a' q1_w
    have keepr : ∀ b', b' < E_w → W' M_w b' = V M_w b' := fun b' q1_w => by
      rcases cell_w M_w b' hM_w q1_w with ⟨e1_w, e2_w⟩ | e_w
      · subst e1_w
        subst e2_w
        rw [h2, j2_w b' hb_w, j2_w M_w hM_w, if_neg (by omega)]
      · rw [e_w]; exact j2_w b' q1_w
    have new_w : RXw V W' M_w a_w b_w := by
      unfold RXw
      rw [h2, j1 a_w ha_w, j2_w b_w hb_w, un]
      refine ⟨fun q4_w q5_w => ?_, ?_⟩
      · have r1_w := (hV a_w M_w ha_w hM_w).resolve_left q4_w
        have r2 := (hV M_w b_w hM_w hb_w).resolve_left q5_w
        by_cases c_w : V a_w b_w < V a_w M_w + V M_w b_w
        · rw [if_pos ⟨by omega, by omega, c_w⟩]
          exact Int.le_refl _
        · rw [if_neg (fun z_w => c_w z_w.2.2)]
          omega
      · by_cases c_w : -500000000000 < V a_w M_w ∧ -500000000000 < V M_w b_w ∧ V a_w b_w < V a_w M_w + V M_w b_w
        · rw [if_pos c_w]
          exact Or.inr ⟨by omega, by omega, rfl⟩
        · rw [if_neg c_w]
          exact Or.inl rfl
    refine ⟨keepc, keepr, fun a' b' q1_w q2_w q3_w => ?_⟩
    rcases cell_w a' b' q1_w q2_w with ⟨e1_w, e2_w⟩ | e_w
    · rw [e1_w, e2_w]
      exact new_w
    · by_cases p_w : prw a_w b_w a' b'
      · have o := j3_w a' b' q1_w q2_w p_w
        unfold RXw at o ⊢
        rw [e_w]
        exact o
      · have : a' = a_w ∧ b' = b_w := by unfold prw at q3_w p_w; omega
        rw [this.1, this.2]
        exact new_w
theorem IRw.nw {WT : Nat → Nat → Int → Prop} {E_w M_w : Nat} {U_w L_w : Int} {V W_w : Nat → Nat → Int} {a_w : Nat} (I_w : IRw WT E_w M_w U_w L_w V W_w a_w E_w) : IRw WT E_w M_w U_w L_w V W_w (a_w + 1) 0 := by
  obtain ⟨i1_w, i2_w, i3_w, i4_w, i5_w, i6_w⟩ := I_w
  exact ⟨fun a' b' q1_w q2_w q3_w => i1_w a' b' q1_w q2_w (by unfold prw at q3_w ⊢; omega), i2_w, i3_w, i4_w, i5_w, fun v_w => ⟨(i6_w v_w).1, (i6_w v_w).2.1, fun a' b' q1_w q2_w q3_w => (i6_w v_w).2.2 a' b' q1_w q2_w (by unfold prw at q3_w ⊢; omega)⟩⟩
/-- closed by all below M_w, or a_w way round that is more than 0 -/
def CLw (E_w M_w : Nat) (V : Nat → Nat → Int) : Prop := (∃ d_w, d_w < E_w ∧ 0 < V d_w d_w) ∨ ∀ a_w k b_w, a_w < E_w → k < M_w → b_w < E_w → V a_w k ≠ FRW → V k b_w ≠ FRW → V a_w b_w ≠ FRW ∧ V a_w k + V k b_w ≤ V a_w b_w
theorem IRw.ew {WT : Nat → Nat → Int → Prop} {E_w M_w : Nat} {U_w L_w : Int} {V W_w : Nat → Nat → Int} (hM_w : M_w < E_w) (hU : 0 ≤ U_w) (hL : 0 ≤ L_w ∧ L_w ≤ 200000000000) (hV : MRw WT E_w U_w L_w V) (I_w : IRw WT E_w M_w U_w L_w V W_w E_w 0) (C_w : CLw E_w M_w V) : MRw WT E_w (6 * U_w) (2 * L_w) W_w ∧ CLw E_w (M_w + 1) W_w ∧ ∀ a_w b_w, a_w < E_w → b_w < E_w → V a_w b_w ≤ W_w a_w b_w := by
  have hF : FRW = -1000000000000 := rfl
  obtain ⟨i1_w, i2_w, i3_w, i4_w, i5_w, i6_w⟩ := I_w
  refine ⟨fun a_w b_w h1 h2 => (i2_w a_w b_w h1 h2).1, ?_, fun a_w b_w h1 h2 => (i2_w a_w b_w h1 h2).2⟩
  by_cases v0_w : V M_w M_w ≤ 0
  · rcases C_w with ⟨d_w, d1_w, d2_w⟩ | C_w
    · have := (i2_w d_w d_w d1_w d1_w).2
      exact Or.inl ⟨d_w, d1_w, by omega⟩
    · right
      obtain ⟨j1, j2_w, j3_w⟩ := i6_w v0_w
      have fin_w : ∀ a_w b_w, a_w < E_w → b_w < E_w → V a_w b_w ≠ FRW → W_w a_w b_w ≠ FRW := fun a_w b_w h1 h2 q_w => by
        have := (i2_w a_w b_w h1 h2).2
        have := (hV a_w b_w h1 h2).resolve_left q_w
        omega
      have vl : ∀ a_w b_w, a_w < E_w → b_w < E_w → V a_w b_w ≠ FRW → -L_w ≤ V a_w b_w := fun a_w b_w h1 h2 q_w => ((hV a_w b_w h1 h2).resolve_left q_w).1
      have P_w : ∀ a_w b_w, a_w < E_w → b_w < E_w → RXw V W_w M_w a_w b_w := fun a_w b_w h1 h2 => j3_w a_w b_w h1 h2 (by unfold prw; omega)
      have via_w : ∀ a_w b_w, a_w < E_w → b_w < E_w → V a_w M_w ≠ FRW → V M_w b_w ≠ FRW → W_w a_w b_w ≠ FRW ∧ V a_w M_w + V M_w b_w ≤ W_w a_w b_w := fun a_w b_w h1 h2 q1_w q2_w => by
        have r_w := (P_w a_w b_w h1 h2).1 q1_w q2_w
        have := vl a_w M_w h1 hM_w q1_w
        have := vl M_w b_w hM_w h2 q2_w
        exact ⟨by omega, r_w⟩
      intro a_w k b_w ha_w hk hb_w q1_w q2_w
      by_cases e_w : k = M_w
      · rw [e_w] at q1_w q2_w ⊢
        rw [j1 a_w ha_w] at q1_w ⊢
        rw [j2_w b_w hb_w] at q2_w ⊢
        exact via_w a_w b_w ha_w hb_w q1_w q2_w
      · have kM : k < M_w := by omega
        have kE : k < E_w := by omega
        rcases (P_w a_w k ha_w kE).2 with x_w | ⟨x1_w, x2_w, x3⟩
        · rw [x_w] at q1_w
          rcases (P_w k b_w kE hb_w).2 with y_w | ⟨y1, y2, y3⟩
          · rw [y_w] at q2_w
            obtain ⟨c1_w, c2_w⟩ := C_w a_w k b_w ha_w kM hb_w q1_w q2_w
            exact ⟨fin_w a_w b_w ha_w hb_w c1_w, by rw [x_w, y_w]; have := (i2_w a_w b_w ha_w hb_w).2; omega⟩
          · obtain ⟨c1_w, c2_w⟩ := C_w a_w k M_w ha_w kM hM_w q1_w y1
            obtain ⟨v1_w, v2⟩ := via_w a_w b_w ha_w hb_w c1_w y2
            exact ⟨v1_w, by rw [x_w, y3]; omega⟩
        · rcases (P_w k b_w kE hb_w).2 with y_w | ⟨y1, y2, y3⟩
          · rw [y_w] at q2_w
            obtain ⟨c1_w, c2_w⟩ := C_w M_w k b_w hM_w kM hb_w x2_w q2_w
            obtain ⟨v1_w, v2⟩ := via_w a_w b_w ha_w hb_w x1_w c1_w
            exact ⟨v1_w, by rw [x3, y_w]; omega⟩
          · obtain ⟨c1_w, c2_w⟩ := C_w M_w k M_w hM_w kM hM_w x2_w y1
            obtain ⟨v1_w, v2⟩ := via_w a_w b_w ha_w hb_w x1_w y2
            exact ⟨v1_w, by rw [x3, y3]; omega⟩
  · have := (i2_w M_w M_w hM_w hM_w).2
    exact Or.inl ⟨M_w, hM_w, by omega⟩
