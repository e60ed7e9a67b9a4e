/-! ===== sound nets: what the class keeps, and what the reference finds ===== -/
def ONs (a_w P_w : Nat) (fr_w to_w : Nat → Nat) (c_w : dc_M) : Prop := ∀ p_w, p_w < P_w → ONw (c_w.1 (a_w + 9) p_w) (fr_w p_w) ∧ ONw (c_w.1 (a_w + 10) p_w) (to_w p_w)
def CYw (E P_w : Nat) (fr_w to_w : Nat → Nat) (tok : Nat → Bool) : Prop := ∃ S : Nat → Prop, (∃ e_w, e_w < E ∧ S e_w) ∧ ∀ e_w, e_w < E → S e_w → ∃ p_w, p_w < P_w ∧ to_w p_w = e_w ∧ tok p_w = false ∧ S (fr_w p_w)
def SOw (a_w : Nat) (c_w : dc_M) : Prop := ∃ E P_w fr_w to_w od, NTw a_w E P_w fr_w to_w c_w ∧ ONs a_w P_w fr_w to_w c_w ∧ GDw a_w E P_w fr_w to_w od c_w
def UNw (a_w : Nat) (c_w : dc_M) : Prop := (∃ p_w : Nat, (p_w : Int) < (c_w.1 a_w 2).toInt ∧ ¬ (cnt (c_w.1 (a_w + 9) p_w) 32 = 1 ∧ cnt (c_w.1 (a_w + 10) p_w) 32 = 1)) ∨ ∃ E P_w fr_w to_w, NTw a_w E P_w fr_w to_w c_w ∧ ONs a_w P_w fr_w to_w c_w ∧ CYw E P_w fr_w to_w (fun p_w => b32 (c_w.1 a_w 13) p_w)
def MGw (a_w : Nat) (c_w : dc_M) : Prop := (¬ (c_w.1 30 0).toInt = 0 ∧ SOw a_w c_w) ∨ ((c_w.1 30 0).toInt = 0 ∧ UNw a_w c_w)
theorem ONs.eqw {a_w P_w : Nat} {fr_w to_w : Nat → Nat} {c_w c' : dc_M} (N_w : ONs a_w P_w fr_w to_w c_w) (e_w : ∀ b_w, a_w ≤ b_w → b_w ≤ a_w + 10 → c'.1 b_w = c_w.1 b_w) : ONs a_w P_w fr_w to_w c' := by
  unfold ONs
  rw [e_w (a_w + 9) (by omega) (by omega), e_w (a_w + 10) (by omega) (by omega)]
  exact N_w
theorem MGw.eqw {a_w : Nat} {c_w c' : dc_M} (G_w : MGw a_w c_w) (e_w : ∀ b_w, a_w ≤ b_w → b_w ≤ a_w + 10 → c'.1 b_w = c_w.1 b_w) (h0 : c'.1 30 0 = c_w.1 30 0) (h7 : c'.1 30 7 = c_w.1 30 7) (h31 : c'.1 31 = c_w.1 31) (h32 : c'.1 32 = c_w.1 32) (h33 : c'.1 33 = c_w.1 33) : MGw a_w c' := by
  unfold MGw
  rw [h0]
  rcases G_w with ⟨g1, E, P_w, fr_w, to_w, od, g2, g3, g4⟩ | ⟨g1, g2⟩
  · exact Or.inl ⟨g1, E, P_w, fr_w, to_w, od, g2.eqw e_w, g3.eqw e_w, g4.eqw h7 h31 h32 h33 (by rw [e_w a_w (by omega) (by omega)])⟩
  · refine Or.inr ⟨g1, ?_⟩
    rcases g2 with ⟨p_w, p1_w, p2_w⟩ | ⟨E, P_w, fr_w, to_w, k1, k2, k3_w⟩
    · left
      rw [e_w a_w (by omega) (by omega), e_w (a_w + 9) (by omega) (by omega), e_w (a_w + 10) (by omega) (by omega)]
      exact ⟨p_w, p1_w, p2_w⟩
    · right
      exact ⟨E, P_w, fr_w, to_w, k1.eqw e_w, k2.eqw e_w, by rw [e_w a_w (by omega) (by omega)]; exact k3_w⟩
/-- what the class's net is -/
def NDw (a_w E P_w : Nat) (c_w : dc_M) : Prop := ((c_w.1 a_w 1).toInt = E ∧ E ≤ 16) ∧ ((c_w.1 a_w 2).toInt = P_w ∧ P_w ≤ 20) ∧ (∀ p_w, p_w < P_w → ∀ k_w, k_w < 32 → b32 (c_w.1 (a_w + 9) p_w) k_w = (decide ((k_w : Int) < E) && b32 (c_w.1 (a_w + 7) k_w) p_w) ∧ b32 (c_w.1 (a_w + 10) p_w) k_w = (decide ((k_w : Int) < E) && b32 (c_w.1 (a_w + 6) k_w) p_w)) ∧ (∀ k_w, k_w < E → ∀ b_w, b_w < 32 → P_w ≤ b_w → b32 (c_w.1 (a_w + 6) k_w) b_w = false ∧ b32 (c_w.1 (a_w + 7) k_w) b_w = false) ∧ ∀ k_w, k_w < E → 0 ≤ (c_w.1 (a_w + 8) k_w).toInt ∧ (c_w.1 (a_w + 8) k_w).toInt ≤ 20
theorem NDw.eqw {a_w E P_w : Nat} {c_w c' : dc_M} (N_w : NDw a_w E P_w c_w) (e_w : ∀ b_w, a_w ≤ b_w → b_w ≤ a_w + 10 → c'.1 b_w = c_w.1 b_w) : NDw a_w E P_w c' := by
  unfold NDw
  rw [e_w a_w (by omega) (by omega), e_w (a_w + 6) (by omega) (by omega), e_w (a_w + 7) (by omega) (by omega), e_w (a_w + 8) (by omega) (by omega), e_w (a_w + 9) (by omega) (by omega), e_w (a_w + 10) (by omega) (by omega)]
  exact N_w
theorem nt_w {a_w E P_w : Nat} {fr_w to_w : Nat → Nat} {c_w : dc_M} (D_w : NDw a_w E P_w c_w) (O_w : ONs a_w P_w fr_w to_w c_w) : NTw a_w E P_w fr_w to_w c_w := by
  obtain ⟨d1_w, d2_w, d3_w, d4_w, d5_w⟩ := D_w
  refine ⟨d1_w, d2_w, fun p_w hp => ?_, d4_w, d5_w⟩
  obtain ⟨o1, o2⟩ := O_w p_w hp
  have lf_w : fr_w p_w < E := by
    have w_w := (d3_w p_w hp (fr_w p_w) o1.1).1
    rw [(o1.2 _ o1.1).mpr rfl] at w_w
    have := of_decide_eq_true ((Bool.and_eq_true _ _).mp w_w.symm).1
    omega
  have lt_w : to_w p_w < E := by
    have w_w := (d3_w p_w hp (to_w p_w) o2.1).2
    rw [(o2.2 _ o2.1).mpr rfl] at w_w
    have := of_decide_eq_true ((Bool.and_eq_true _ _).mp w_w.symm).1
    omega
  refine ⟨lf_w, lt_w, fun k_w hk => ⟨?_, ?_⟩⟩
  · have w_w := (d3_w p_w hp k_w (by omega)).2
    rw [decide_eq_true (show (k_w : Int) < E by omega), Bool.true_and] at w_w
    rw [← w_w, o2.2 k_w (by omega)]
    exact eq_comm
  · have w_w := (d3_w p_w hp k_w (by omega)).1
    rw [decide_eq_true (show (k_w : Int) < E by omega), Bool.true_and] at w_w
    rw [← w_w, o1.2 k_w (by omega)]
    exact eq_comm
theorem l50_fc {a_w : Nat} {m e_w : dc_M} (F_w : RFw m) (h_w : d_X5_find_l50 30 a_w 0 m = some e_w) : FCm m e_w := by
  unfold d_X5_find_l50 at h_w
  refine dc_lp_inv (s := ((0 : Int32), m)) (fun s : Int32 × dc_M => FCm m s.2) (fun e_w : dc_M => FCm m e_w) (fun s s' hI hs => ?_) (fun s e_w hI hs => ?_) ⟨fun _ _ _ => rfl, rfl, rfl, F_w, fun _ _ _ => rfl⟩ h_w
  · have hI : FCm m s.2 := hI
    have hs : d_X5_find_l50b 30 a_w s.1 s.2 = some (.inl s') := hs
    unfold d_X5_find_l50b at hs
    by_cases c_w : (s.2.1 a_w 1).toInt ≤ s.1.toInt
    · rw [if_pos c_w] at hs
      generalize d_X5_find_b70 30 a_w s.2 = o at hs
      cases o with
      | none => cases hs
      | some o => cases hs
    · rw [if_neg c_w] at hs
      cases hq : d_X5_findClosedWays 30 a_w s.1 s.2 with
      | none => rw [hq] at hs; cases hs
      | some q_w =>
        rw [hq] at hs
        have hs := Sum.inl.inj (Option.some.inj hs)
        rw [← hs]
        exact fc_X5_findClosedWays rfl hI hq
  · have hI : FCm m s.2 := hI
    have hs : d_X5_find_l50b 30 a_w s.1 s.2 = some (.inr e_w) := hs
    unfold d_X5_find_l50b at hs
    by_cases c_w : (s.2.1 a_w 1).toInt ≤ s.1.toInt
    · rw [if_pos c_w] at hs
      unfold d_X5_find_b70 at hs
      cases hq : d_X5_findBeat 30 (s.2.1 a_w 1) s.2 with
      | none => rw [hq] at hs; cases hs
      | some q_w =>
        rw [hq] at hs
        have hs : q_w = e_w := Sum.inr.inj (Option.some.inj hs)
        rw [← hs]
        exact fc_X5_findBeat rfl hI hq
    · rw [if_neg c_w] at hs
      generalize d_X5_findClosedWays 30 a_w s.1 s.2 = o at hs
      cases o with
      | none => cases hs
      | some o => cases hs
def FRf (c_w c' : dc_M) : Prop := (∀ y_w, ¬ (30 ≤ y_w ∧ y_w ≤ 36) → c'.1 y_w = c_w.1 y_w) ∧ c'.2.1 = c_w.2.1 ∧ c'.2.2.2 = c_w.2.2.2 ∧ RFw c' ∧ ∀ y_w f_w, ¬ (y_w = 30 ∧ (f_w = 8 ∨ f_w = 9)) → c'.2.2.1 y_w f_w = c_w.2.2.1 y_w f_w
theorem find_w {a_w E P_w : Nat} {c_w c' : dc_M} (ha_w : a_w = 41 ∨ a_w = 52) (D_w : NDw a_w E P_w c_w) (F_w : RFw c_w) (h_w : d_X5_find 30 a_w c_w = some c') : FRf c_w c' ∧ MGw a_w c' := by
  obtain ⟨M_w, hM_w⟩ : ∃ M_w, dc_wi (dc_wi (dc_wi c_w 30 1 0) 30 2 0) 30 3 0 = M_w := ⟨_, rfl⟩
  have m2_w : M_w.2 = c_w.2 := by rw [← hM_w]; rfl
  have m1_w : ∀ y_w, y_w ≠ 30 → M_w.1 y_w = c_w.1 y_w := fun y_w hy => by
    rw [← hM_w]
    exact funext (fun k_w => ((wi_k (by omega)).trans (wi_k (by omega))).trans (wi_k (by omega)))
  unfold d_X5_find at h_w
  rw [hM_w] at h_w
  cases h1 : d_X5_findEnds 30 a_w M_w with
  | none => rw [h1] at h_w; cases h_w
  | some q1_w =>
    rw [h1, Option.bind_some] at h_w
    obtain ⟨x1_w, y1⟩ := q1_w
    have nb : ∀ p_w, p_w < P_w → ∀ k_w, k_w < 32 → 16 ≤ k_w → b32 (M_w.1 (a_w + 9) p_w) k_w = false ∧ b32 (M_w.1 (a_w + 10) p_w) k_w = false := fun p_w hp k_w hk h16_w => by
      rw [m1_w (a_w + 9) (by omega), m1_w (a_w + 10) (by omega)]
      have w_w := D_w.2.2.1 p_w hp k_w hk
      have := D_w.1.2
      rw [w_w.1, w_w.2, decide_eq_false (show ¬ (k_w : Int) < E by omega), Bool.false_and, Bool.false_and]
      exact ⟨rfl, rfl⟩
    obtain ⟨⟨f2_w, f1_w⟩, fe⟩ := fe_w ha_w (by rw [m1_w a_w (by omega)]; exact D_w.2.1.1) D_w.2.1.2 nb h1
    have c1_w : ∀ y_w, ¬ (30 ≤ y_w ∧ y_w ≤ 36) → y1.1 y_w = c_w.1 y_w := fun y_w hy => (f1_w y_w (by omega) (by omega)).trans (m1_w y_w (by omega))
    have c2_w : y1.2 = c_w.2 := f2_w.trans m2_w
    have un : ∀ z_w : dc_M, z_w.2 = c_w.2 → (∀ y_w, ¬ (30 ≤ y_w ∧ y_w ≤ 36) → z_w.1 y_w = c_w.1 y_w) → UNw a_w c_w → d_X5_find_b37 30 a_w 0 30 z_w = some c' → FRf c_w c' ∧ MGw a_w c' := fun z_w z2 z1 U_w hz => by
      unfold d_X5_find_b37 at hz
      rw [wi_s, if_neg (fun q_w => q_w rfl)] at hz
      have hz := Option.some.inj hz
      have e1_w : ∀ y_w, ¬ (30 ≤ y_w ∧ y_w ≤ 36) → c'.1 y_w = c_w.1 y_w := fun y_w hy => by
        rw [← hz, ← z1 y_w hy]
        exact funext (fun k_w => wi_k (by omega))
      have e2_w : c'.2 = c_w.2 := by rw [← hz]; exact z2
      refine ⟨⟨e1_w, by rw [e2_w], by rw [e2_w], by unfold RFw; rw [e2_w]; exact F_w, fun y_w f_w _ => by rw [e2_w]⟩, Or.inr ⟨by rw [← hz, wi_s]; rfl, ?_⟩⟩
      have e_w : ∀ b_w, a_w ≤ b_w → b_w ≤ a_w + 10 → c'.1 b_w = c_w.1 b_w := fun b_w b1 b2 => e1_w b_w (by omega)
      rcases U_w with ⟨p_w, p1_w, p2_w⟩ | ⟨E, P_w, fr_w, to_w, k1, k2, k3_w⟩
      · left
        rw [e_w a_w (by omega) (by omega), e_w (a_w + 9) (by omega) (by omega), e_w (a_w + 10) (by omega) (by omega)]
        exact ⟨p_w, p1_w, p2_w⟩
      · right
        exact ⟨E, P_w, fr_w, to_w, k1.eqw e_w, k2.eqw e_w, by rw [e_w a_w (by omega) (by omega)]; exact k3_w⟩
    rcases fe with ⟨x1e, fe⟩ | ⟨x1e, p_w, p1_w, p2_w⟩
    · have x1e : x1_w = 1 := x1e
      rw [x1e, if_neg (show ¬ (1 : Int32).toInt = 0 by decide)] at h_w
      have ch_w : ∀ p_w, ∃ ft : Nat × Nat, p_w < P_w → (ONw (M_w.1 (a_w + 9) p_w) ft.1 ∧ y1.1 31 p_w = Int32.ofNat ft.1) ∧ ONw (M_w.1 (a_w + 10) p_w) ft.2 ∧ y1.1 32 p_w = Int32.ofNat ft.2 := fun p_w => by
        by_cases z_w : p_w < P_w
        · obtain ⟨f_w, t_w, w_w⟩ := fe p_w z_w
          exact ⟨(f_w, t_w), fun _ => w_w⟩
        · exact ⟨(0, 0), fun w_w => absurd w_w z_w⟩
      obtain ⟨g_w, hg⟩ := Classical.axiomOfChoice ch_w
      obtain ⟨fr_w, hfr⟩ : ∃ fr_w : Nat → Nat, ∀ p_w, fr_w p_w = (g_w p_w).1 := ⟨fun p_w => (g_w p_w).1, fun _ => rfl⟩
      obtain ⟨to_w, hto⟩ : ∃ to_w : Nat → Nat, ∀ p_w, to_w p_w = (g_w p_w).2 := ⟨fun p_w => (g_w p_w).2, fun _ => rfl⟩
      have ON : ONs a_w P_w fr_w to_w c_w := fun p_w hp => by
        have w_w := hg p_w hp
        rw [← hfr, ← hto, m1_w (a_w + 9) (by omega), m1_w (a_w + 10) (by omega)] at w_w
        exact ⟨w_w.1.1, w_w.2.1⟩
      have NT := nt_w D_w ON
      cases h2 : d_X5_putInOrder 30 a_w y1 with
      | none => rw [h2] at h_w; cases h_w
      | some q2_w =>
        rw [h2, Option.bind_some] at h_w
        obtain ⟨x2_w, y2⟩ := q2_w
        have NY : NTw a_w E P_w fr_w to_w y1 := NT.eqw (fun b_w b1 b2 => c1_w b_w (by omega))
        obtain ⟨⟨g2, g3, g1⟩, po⟩ := po_w ha_w NY (fun p_w hp => by rw [hfr]; exact (hg p_w hp).1.2) h2
        have d1_w : ∀ y_w, ¬ (30 ≤ y_w ∧ y_w ≤ 36) → y2.1 y_w = c_w.1 y_w := fun y_w hy => (g1 y_w (by omega) (by omega)).trans (c1_w y_w hy)
        have d2_w : y2.2 = c_w.2 := g2.trans c2_w
        rw [c1_w a_w (by omega)] at po
        rcases po with ⟨x2e, od, o1, o2, o3_w⟩ | ⟨x2e, S⟩
        · have x2e : x2_w = 1 := x2e
          rw [x2e, if_neg (show ¬ (1 : Int32).toInt = 0 by decide)] at h_w
          unfold d_X5_find_b37 at h_w
          rw [wi_s, if_pos (show ¬ (1 : Int32).toInt = 0 by decide)] at h_w
          obtain ⟨B_w, hB_w⟩ : ∃ B_w, dc_wi y2 30 0 1 = B_w := ⟨_, rfl⟩
          rw [hB_w] at h_w
          have b2 : B_w.2 = c_w.2 := by rw [← hB_w]; exact d2_w
          obtain ⟨k1, k2, k3_w, k4_w, k5_w⟩ := l50_fc (m := B_w) (by unfold RFw; rw [b2]; exact F_w) h_w
          have b1 : ∀ y_w, y_w ≠ 30 → B_w.1 y_w = y2.1 y_w := fun y_w hy => by
            rw [← hB_w]
            exact funext (fun k_w => wi_k (by omega))
          have e1_w : ∀ y_w, ¬ (30 ≤ y_w ∧ y_w ≤ 36) → c'.1 y_w = c_w.1 y_w := fun y_w hy => by
            rw [← d1_w y_w hy, ← b1 y_w (by omega)]
            exact funext (fun k_w => k1 y_w k_w (by unfold fcc; omega))
          have ek : ∀ y_w, 31 ≤ y_w → y_w ≤ 33 → c'.1 y_w = y2.1 y_w := fun y_w h1 h2 => by
            rw [← b1 y_w (by omega)]
            exact funext (fun k_w => k1 y_w k_w (by unfold fcc; omega))
          refine ⟨⟨e1_w, by rw [k2, b2], by rw [k3_w, b2], k4_w, fun y_w f_w n_w => by rw [k5_w y_w f_w n_w, b2]⟩, Or.inl ⟨?_, E, P_w, fr_w, to_w, od, ?_, ?_, fun p_w hp => ?_, ?_, fun j_w hj => ?_, ?_⟩⟩
          · rw [k1 30 0 (by unfold fcc; omega), ← hB_w, wi_s]
            decide
          · exact NT.eqw (fun b_w b1 b2 => e1_w b_w (by omega))
          · exact ON.eqw (fun b_w b1 b2 => e1_w b_w (by omega))
          · rw [ek 31 (by omega) (by omega), ek 32 (by omega) (by omega), g1 31 (by decide) (by decide), g1 32 (by decide) (by decide), hfr, hto]
            exact ⟨(hg p_w hp).1.2, (hg p_w hp).2.2⟩
          · rw [k1 30 7 (by unfold fcc; omega), ← hB_w, wi_k (by omega)]
            exact o1
          · rw [ek 33 (by omega) (by omega)]
            exact o2 j_w hj
          · rw [e1_w a_w (by omega)]
            exact o3_w
        · have x2e : x2_w = 0 := x2e
          rw [x2e, if_pos (show (0 : Int32).toInt = 0 from rfl)] at h_w
          exact un y2 d2_w d1_w (Or.inr ⟨E, P_w, fr_w, to_w, NT, ON, S⟩) h_w
    · have x1e : x1_w = 0 := x1e
      rw [x1e, if_pos (show (0 : Int32).toInt = 0 from rfl)] at h_w
      refine un y1 c2_w c1_w (Or.inl ⟨p_w, ?_, ?_⟩) h_w
      · rw [D_w.2.1.1]; omega
      · rw [m1_w (a_w + 9) (by omega), m1_w (a_w + 10) (by omega)] at p2_w
        exact p2_w
def itw (g_w : Nat → Nat) (e_w : Nat) : Nat → Nat
  | 0 => e_w
  | n_w + 1 => g_w (itw g_w e_w n_w)
/-- where each has one before it, one is before itself -/
theorem cyc_w {E : Nat} {R : Nat → Nat → Prop} {S : Nat → Prop} (tr_w : ∀ a_w b_w d_w, a_w < E → b_w < E → d_w < E → R a_w b_w → R b_w d_w → R a_w d_w) (e0_w : ∃ e_w, e_w < E ∧ S e_w) (pr : ∀ e_w, e_w < E → S e_w → ∃ f_w, f_w < E ∧ S f_w ∧ R f_w e_w) : ∃ e_w, e_w < E ∧ R e_w e_w := by
  have ch_w : ∀ e_w, ∃ f_w, e_w < E → S e_w → f_w < E ∧ S f_w ∧ R f_w e_w := fun e_w => by
    by_cases z_w : e_w < E ∧ S e_w
    · obtain ⟨f_w, w_w⟩ := pr e_w z_w.1 z_w.2
      exact ⟨f_w, fun _ _ => w_w⟩
    · exact ⟨0, fun h1 h2 => absurd ⟨h1, h2⟩ z_w⟩
  obtain ⟨g_w, hg⟩ := Classical.axiomOfChoice ch_w
  obtain ⟨e0_w, h1, h2⟩ := e0_w
  have inv_w : ∀ n_w, itw g_w e0_w n_w < E ∧ S (itw g_w e0_w n_w) := fun n_w => by
    induction n_w with
    | zero => exact ⟨h1, h2⟩
    | succ n_w ih => exact ⟨(hg _ ih.1 ih.2).1, (hg _ ih.1 ih.2).2.1⟩
  have st_w : ∀ n_w, R (itw g_w e0_w (n_w + 1)) (itw g_w e0_w n_w) := fun n_w => (hg _ (inv_w n_w).1 (inv_w n_w).2).2.2
  have lg : ∀ k_w n_w, R (itw g_w e0_w (n_w + k_w + 1)) (itw g_w e0_w n_w) := fun k_w => by
    induction k_w with
    | zero => intro n_w; exact st_w n_w
    | succ k_w ih => intro n_w; exact tr_w _ _ _ (inv_w _).1 (inv_w _).1 (inv_w _).1 (st_w (n_w + k_w + 1)) (ih n_w)
  obtain ⟨s, t_w, q1_w, q2_w, q3_w⟩ := phole_ E (itw g_w e0_w) (fun s _ => (inv_w s).1)
  have := lg (t_w - s - 1) s
  rw [show s + (t_w - s - 1) + 1 = t_w by omega, ← q3_w] at this
  exact ⟨_, (inv_w s).1, this⟩
theorem gr_w {a_w E P_w : Nat} {c_w m m' : dc_M} {q_w : Int32} (ha_w : a_w = 41 ∨ a_w = 52) (D_w : NDw a_w E P_w c_w) (G_w : MGw a_w c_w) (r3 : m.1 82 3 = c_w.1 a_w 1) (r10 : m.1 82 10 = c_w.1 a_w 2) (r11 : m.1 82 11 = c_w.1 a_w 13) (rk : ∀ k_w, k_w < E → m.1 88 k_w = c_w.1 (a_w + 6) k_w ∧ m.1 89 k_w = c_w.1 (a_w + 7) k_w ∧ m.1 90 k_w = c_w.1 (a_w + 8) k_w) (h_w : d_X10_isGraph 82 m = some (q_w, m')) : (∀ y_w, y_w ≠ 111 → y_w ≠ 112 → m'.1 y_w = m.1 y_w) ∧ m'.2.2 = m.2.2 ∧ ((¬ (c_w.1 30 0).toInt = 0 ∧ q_w = 1 ∧ ∃ fr_w to_w od, NTw a_w E P_w fr_w to_w c_w ∧ ONs a_w P_w fr_w to_w c_w ∧ GDw a_w E P_w fr_w to_w od c_w ∧ RGw E P_w fr_w to_w (fun p_w => b32 (c_w.1 a_w 13) p_w) (fun e_w => (c_w.1 (a_w + 8) e_w).toInt) m') ∨ ((c_w.1 30 0).toInt = 0 ∧ q_w = 0)) := by
  have hE : (m.1 82 3).toInt = E ∧ E ≤ 16 := by rw [r3]; exact D_w.1
  have hP : (m.1 82 10).toInt = P_w := by rw [r10]; exact D_w.2.1.1
  have P20 := D_w.2.1.2
  have hd_w : ∀ e_w, e_w < E → 0 ≤ (m.1 90 e_w).toInt ∧ (m.1 90 e_w).toInt ≤ 20 := fun e_w he => by rw [(rk e_w he).2.2]; exact D_w.2.2.2.2 e_w he
  have h9 : ∀ p_w, p_w < P_w → ∀ k_w, k_w < 32 → b32 (c_w.1 (a_w + 9) p_w) k_w = (decide ((k_w : Int) < E) && b32 (m.1 89 k_w) p_w) := fun p_w hp k_w hk => by
    rw [(D_w.2.2.1 p_w hp k_w hk).1]
    by_cases z_w : (k_w : Int) < E
    · rw [(rk k_w (by omega)).2.1]
    · rw [decide_eq_false z_w, Bool.false_and, Bool.false_and]
  have h10 : ∀ p_w, p_w < P_w → ∀ k_w, k_w < 32 → b32 (c_w.1 (a_w + 10) p_w) k_w = (decide ((k_w : Int) < E) && b32 (m.1 88 k_w) p_w) := fun p_w hp k_w hk => by
    rw [(D_w.2.2.1 p_w hp k_w hk).2]
    by_cases z_w : (k_w : Int) < E
    · rw [(rk k_w (by omega)).1]
    · rw [decide_eq_false z_w, Bool.false_and, Bool.false_and]
  obtain ⟨k1, k2, k3_w⟩ := ig_w hE hP P20 h9 h10 hd_w h_w
  refine ⟨k1, k2, ?_⟩
  have F2 : FRW / 2 = -500000000000 := rfl
  have F1_w : FRW = -1000000000000 := rfl
  -- with ends_w: the ways
  have go_w : ∀ fr_w to_w, NTw a_w E P_w fr_w to_w c_w → ONs a_w P_w fr_w to_w c_w → (∀ p_w, p_w < P_w → ∃ f_w t_w, (ONw (c_w.1 (a_w + 9) p_w) f_w ∧ m'.1 111 p_w = Int32.ofNat f_w) ∧ ONw (c_w.1 (a_w + 10) p_w) t_w ∧ m'.1 112 p_w = Int32.ofNat t_w) → (∀ p_w, p_w < P_w → m'.1 111 p_w = Int32.ofNat (fr_w p_w) ∧ m'.1 112 p_w = Int32.ofNat (to_w p_w)) ∧ ∀ (WT : Nat → Nat → Int → Prop) (m0_w : dc_M), m0_w.1 = m'.1 → d_X10_layWays 82 1 0 1 m0_w = some m' → (∀ a_w k_w b_w u v, WT a_w k_w u → WT k_w b_w v → WT a_w b_w (u + v)) → (∀ p_w, p_w < P_w → b32 (c_w.1 a_w 13) p_w = false → ∀ v, WT (fr_w p_w) (to_w p_w) v) → MRw WT E (UBw E) (LBw E) (wyw m') ∧ CLw E E (wyw m') ∧ ∀ p_w, p_w < P_w → b32 (c_w.1 a_w 13) p_w = false → wyw m' (fr_w p_w) (to_w p_w) ≠ FRW := fun fr_w to_w NT ON en => by
    have ee : ∀ p_w, p_w < P_w → m'.1 111 p_w = Int32.ofNat (fr_w p_w) ∧ m'.1 112 p_w = Int32.ofNat (to_w p_w) := fun p_w hp => by
      obtain ⟨f_w, t_w, ⟨w1, w2_w⟩, w3, w4_w⟩ := en p_w hp
      rw [w2_w, w4_w, w1.uq (ON p_w hp).1, w3.uq (ON p_w hp).2]
      exact ⟨rfl, rfl⟩
    refine ⟨ee, fun WT m0_w z1 hz hT_w hb_w => ?_⟩
    have z82 : m0_w.1 82 = m.1 82 := by rw [z1]; exact k1 82 (by decide) (by decide)
    have z90 : m0_w.1 90 = m.1 90 := by rw [z1]; exact k1 90 (by decide) (by decide)
    have inn : ∀ p_w, inw 1 m0_w p_w ↔ b32 (c_w.1 a_w 13) p_w = false := fun p_w => by
      unfold inw
      rw [z82, r11]
      generalize b32 (c_w.1 a_w 13) p_w = z_w
      cases z_w <;> simp
    obtain ⟨l1, l2, l3, -⟩ := @lwy_run WT E P_w 1 0 1 fr_w to_w m0_w m' hT_w (by rw [z82]; exact hE.1) hE.2 (by rw [z82]; exact hP) P20 (fun p_w hp => ⟨by rw [z1]; exact (ee p_w hp).1, (NT.2.2.1 p_w hp).1⟩) (fun p_w hp => ⟨by rw [z1]; exact (ee p_w hp).2, (NT.2.2.1 p_w hp).2.1⟩) (fun e_w he => by rw [z90]; exact hd_w e_w he) (by decide) (by decide) (fun p_w hp hi_w => hb_w p_w hp ((inn p_w).mp hi_w) _) hz
    refine ⟨l1, l2, fun p_w hp ht q_w => ?_⟩
    have w_w := l3 p_w hp ((inn p_w).mpr ht)
    rw [q_w] at w_w
    have v0_w : 0 ≤ vlw 1 0 fr_w m0_w p_w := by
      unfold vlw
      have := hd_w (fr_w p_w) (NT.2.2.1 p_w hp).1
      rw [z90, z82, r11, ht, if_neg (by decide), show (1 : Int64).toInt = 1 from rfl]
      omega
    omega
  have nope : ∀ fr_w to_w, ONs a_w P_w fr_w to_w c_w → ¬ ∃ p_w, p_w < P_w ∧ ¬ (cnt (c_w.1 (a_w + 9) p_w) 32 = 1 ∧ cnt (c_w.1 (a_w + 10) p_w) 32 = 1) := fun fr_w to_w ON ⟨p_w, hp, n_w⟩ => n_w ⟨one_w.mpr ⟨_, (ON p_w hp).1⟩, one_w.mpr ⟨_, (ON p_w hp).2⟩⟩
  have same_w : ∀ E'_w P'_w fr_w to_w, NTw a_w E'_w P'_w fr_w to_w c_w → E'_w = E ∧ P'_w = P_w := fun E'_w P'_w fr_w to_w N_w => by
    have a1_w := N_w.1.1
    have a2 := N_w.2.1.1
    rw [D_w.1.1] at a1_w
    rw [D_w.2.1.1] at a2
    omega
  rcases G_w with ⟨g0, E'_w, P'_w, fr_w, to_w, od, g1, g2, g3⟩ | ⟨g0, U_w⟩
  · obtain ⟨ee, pp⟩ := same_w E'_w P'_w fr_w to_w g1
    rw [ee, pp] at g1 g3
    rw [pp] at g2
    left
    rcases k3_w with ⟨-, n_w⟩ | ⟨en, m0_w, z1, z2, k3_w⟩
    · exact absurd n_w (nope fr_w to_w g2)
    · obtain ⟨ends_w, lw⟩ := go_w fr_w to_w g1 g2 en
      obtain ⟨o1, o2, o3_w, o4_w⟩ := g3.2.2.2
      obtain ⟨ps_w, hps⟩ := Classical.axiomOfChoice (show ∀ e_w, ∃ j_w, e_w < E → j_w < E ∧ od j_w = e_w from fun e_w => by
        by_cases z_w : e_w < E
        · obtain ⟨j_w, w_w⟩ := o3_w e_w z_w
          exact ⟨j_w, fun _ => w_w⟩
        · exact ⟨0, fun w_w => absurd w_w z_w⟩)
      obtain ⟨l1, -, -⟩ := lw (fun x_w y_w _ => ps_w x_w < ps_w y_w) m0_w z1 z2 (fun _ _ _ _ _ h1 h2 => Nat.lt_trans h1 h2) (fun p_w hp ht _ => by
        have n_w := g1.2.2.1 p_w hp
        obtain ⟨w1, w2_w⟩ := hps (to_w p_w) n_w.2.1
        obtain ⟨i_w, i1_w, i2_w⟩ := o4_w (ps_w (to_w p_w)) w1 p_w hp w2_w.symm ht
        obtain ⟨y1, y2⟩ := hps (fr_w p_w) n_w.1
        have : ps_w (fr_w p_w) = i_w := o2 _ _ y1 (by omega) (y2.trans i2_w.symm)
        omega)
      have far_w : ∀ e_w, e_w < E → wyw m' e_w e_w = FRW := fun e_w he => (l1 e_w e_w he he).elim id (fun w_w => absurd w_w.2.2 (Nat.lt_irrefl _))
      refine ⟨g0, ?_, fr_w, to_w, od, g1, g2, g3, ?_⟩
      · rcases k3_w with ⟨w_w, -⟩ | ⟨-, e_w, e1_w, e2_w⟩
        · exact w_w
        · rw [far_w e_w e1_w] at e2_w
          omega
      · refine ⟨by rw [k1 82 (by decide) (by decide)]; exact hE, ⟨by rw [k1 82 (by decide) (by decide)]; exact hP, P20⟩, fun p_w hp => ⟨ends_w p_w hp, (g1.2.2.1 p_w hp).1, (g1.2.2.1 p_w hp).2.1⟩, fun e_w he => ?_, fun p_w hp => by rw [k1 82 (by decide) (by decide), r11], fun e_w he => ?_⟩
        · rw [k1 90 (by decide) (by decide), (rk e_w he).2.2]
          exact ⟨rfl, D_w.2.2.2.2 e_w he⟩
        · rw [k1 88 (by decide) (by decide), (rk e_w he).1]
          exact tk0_w g1 he
  · right
    refine ⟨g0, ?_⟩
    rcases U_w with ⟨p_w, p1_w, p2_w⟩ | ⟨E'_w, P'_w, fr_w, to_w, g1, g2, S, s1_w, s2_w⟩
    · rcases k3_w with ⟨w_w, -⟩ | ⟨en, -⟩
      · exact w_w
      · rw [D_w.2.1.1] at p1_w
        obtain ⟨f_w, t_w, ⟨w1, -⟩, w3, -⟩ := en p_w (by omega)
        exact absurd ⟨one_w.mpr ⟨_, w1⟩, one_w.mpr ⟨_, w3⟩⟩ p2_w
    · obtain ⟨ee, pp⟩ := same_w E'_w P'_w fr_w to_w g1
      rw [ee, pp] at g1
      rw [ee] at s1_w s2_w
      rw [pp] at g2 s2_w
      rcases k3_w with ⟨w_w, -⟩ | ⟨en, m0_w, z1, z2, k3_w⟩
      · exact w_w
      · obtain ⟨ends_w, lw⟩ := go_w fr_w to_w g1 g2 en
        obtain ⟨l1, l2, l3⟩ := lw (fun _ _ _ => True) m0_w z1 z2 (fun _ _ _ _ _ _ _ => trivial) (fun _ _ _ _ => trivial)
        have hi_w : ∃ e_w, e_w < E ∧ FRW / 2 ≤ wyw m' e_w e_w := by
          rcases l2 with ⟨d_w, d1_w, d2_w⟩ | C_w
          · exact ⟨d_w, d1_w, by omega⟩
          · obtain ⟨e_w, e1_w, e2_w⟩ := cyc_w (E := E) (R := fun x_w y_w => wyw m' x_w y_w ≠ FRW) (S := S) (fun x_w y_w z_w hx hy hz r1_w r2 => (C_w x_w y_w z_w hx hy hz r1_w r2).1) s1_w (fun e_w he hS_w => by
              obtain ⟨p_w, p1_w, p2_w, p3_w, p4_w⟩ := s2_w e_w he hS_w
              refine ⟨fr_w p_w, (g1.2.2.1 p_w p1_w).1, p4_w, ?_⟩
              rw [← p2_w]
              exact l3 p_w p1_w p3_w)
            have w_w := ((l1 e_w e_w e1_w e1_w).resolve_left e2_w).1
            have := (UBw.bw E (by omega)).2.2.2
            exact ⟨e_w, e1_w, by omega⟩
        rcases k3_w with ⟨-, w_w⟩ | ⟨w_w, -⟩
        · obtain ⟨e_w, e1_w, e2_w⟩ := hi_w
          have := w_w e_w e1_w
          omega
        · exact w_w
