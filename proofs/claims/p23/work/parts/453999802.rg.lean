/-! ===== longest ways from one event, as many tokens as said: places without token ===== -/
theorem shz_w {x e : Int32} {p_w : Nat} (hp : e.toInt = p_w) (h32 : p_w < 32) (h_w : (x >>> (e &&& 31)).toInt = 0) : ∀ j_w, p_w ≤ j_w → j_w < 32 → b32 x j_w = false := fun j_w h1 h2 => by
  have hn := cl_n (x := e) (by omega)
  have z_w : x >>> (e &&& 31) = 0 := Int32.toInt_inj.mp h_w
  have b_w : b32 (x >>> (e &&& 31)) (j_w - p_w) = b32 x j_w := by
    unfold b32
    rw [Int32.toBitVec_shiftRight, show x.toBitVec.sshiftRight' ((e &&& 31).toBitVec.smod 32) = x.toBitVec.sshiftRight ((e &&& 31).toBitVec.smod 32).toNat from rfl, b32_n ⟨by omega, by omega⟩, BitVec.getLsbD_sshiftRight, if_pos (by omega), show e.toNatClampNeg + (j_w - p_w) = j_w by omega]
    simp
    omega
  rw [← b_w, z_w, b32_0]
theorem len_w {a p_w s w_w : Nat} {fr_w to_w : Nat → Nat} {m_w : dc_M} (g1 : m_w.1 31 p_w = Int32.ofNat (fr_w p_w)) (g2 : m_w.1 32 p_w = Int32.ofNat (to_w p_w)) (hp : p_w < 32) (h1 : fr_w p_w < 16) (h2 : to_w p_w < 16) (hw : m_w.2.2.1 30 8 = w_w) (hs : -1 ≤ (m_w.1 s (fr_w p_w)).toInt ∧ (m_w.1 s (fr_w p_w)).toInt ≤ 100000) (hd_w : 0 ≤ (m_w.1 (a + 8) (fr_w p_w)).toInt ∧ (m_w.1 (a + 8) (fr_w p_w)).toInt ≤ 20) : (d_X5_lengthen 30 s a (Int32.ofNat p_w) m_w).2 = m_w.2 ∧ (∀ y_w k_w, ¬ (y_w = w_w ∧ k_w = to_w p_w) → (d_X5_lengthen 30 s a (Int32.ofNat p_w) m_w).1 y_w k_w = m_w.1 y_w k_w) ∧ ((d_X5_lengthen 30 s a (Int32.ofNat p_w) m_w).1 w_w (to_w p_w)).toInt = if (m_w.1 s (fr_w p_w)).toInt = -1 then (m_w.1 w_w (to_w p_w)).toInt else if (m_w.1 w_w (to_w p_w)).toInt < (m_w.1 s (fr_w p_w)).toInt + (m_w.1 (a + 8) (fr_w p_w)).toInt then (m_w.1 s (fr_w p_w)).toInt + (m_w.1 (a + 8) (fr_w p_w)).toInt else (m_w.1 w_w (to_w p_w)).toInt := by
  have pn : (Int32.ofNat p_w).toNatClampNeg = p_w := on_n (by omega)
  have f1_w : (Int32.ofNat (fr_w p_w)).toNatClampNeg = fr_w p_w := on_n (by omega)
  have f2_w : (Int32.ofNat (to_w p_w)).toNatClampNeg = to_w p_w := on_n (by omega)
  unfold d_X5_lengthen d_J9_max_7cf53
  rw [show 30 + 1 = 31 from rfl, show 30 + 2 = 32 from rfl, pn, g1, g2, f1_w, f2_w, hw]
  have sum_w : (m_w.1 s (fr_w p_w) + m_w.1 (a + 8) (fr_w p_w)).toInt = (m_w.1 s (fr_w p_w)).toInt + (m_w.1 (a + 8) (fr_w p_w)).toInt := by rw [Int32.toInt_add, sx_bm (by omega) (by omega)]
  by_cases c_w : (m_w.1 s (fr_w p_w)).toInt = -1
  · rw [if_pos c_w, if_pos c_w]
    exact ⟨rfl, fun _ _ _ => rfl, rfl⟩
  · rw [if_neg c_w, if_neg c_w, sum_w]
    refine ⟨rfl, fun y_w k_w n_w => wi_k n_w, ?_⟩
    rw [wi_s]
    split
    · exact sum_w
    · rfl
/-- a value of a walk with k_w tokens, or none -/
def SNx (P_w : Nat) (fr_w to_w : Nat → Nat) (tok : Nat → Bool) (dl : Nat → Int) (f_w k_w x : Nat) (v_w : Int) : Prop := v_w = -1 ∨ (0 ≤ v_w ∧ ∃ l, chw P_w fr_w to_w f_w l x ∧ tkw tok l = k_w ∧ wtw fr_w dl l = v_w)
/-- what holds while the i_w-th event's places are gone through -/
def GIw (P_w E_w C_w : Nat) (fr_w to_w od : Nat → Nat) (tok : Nat → Bool) (dl : Nat → Int) (f_w k_w : Nat) (U_w V : Nat → Int) (i_w p_w : Nat) : Prop := (∀ x, x < E_w → SNx P_w fr_w to_w tok dl f_w k_w x (V x) ∧ U_w x ≤ V x) ∧ (∀ j_w, j_w < E_w → V (od j_w) ≤ C_w + 20 * j_w) ∧ (∀ j_w, j_w < i_w → ∀ q_w, q_w < P_w → fr_w q_w = od j_w → tok q_w = false → V (od j_w) ≠ -1 → V (od j_w) + dl (od j_w) ≤ V (to_w q_w)) ∧ ∀ q_w, q_w < p_w → q_w < P_w → fr_w q_w = od i_w → tok q_w = false → V (od i_w) ≠ -1 → V (od i_w) + dl (od i_w) ≤ V (to_w q_w)
theorem GIw.st {P_w E_w C_w : Nat} {fr_w to_w od : Nat → Nat} {tok : Nat → Bool} {dl : Nat → Int} {f_w k_w : Nat} {U_w V V' : Nat → Int} {i_w p_w : Nat} (O_w : ODw E_w P_w fr_w to_w tok od) (hf : ∀ p_w, p_w < P_w → fr_w p_w < E_w ∧ to_w p_w < E_w) (hd_w : ∀ e, e < E_w → 0 ≤ dl e ∧ dl e ≤ 20) (hi_w : i_w < E_w) (hp : p_w < P_w) (G_w : GIw P_w E_w C_w fr_w to_w od tok dl f_w k_w U_w V i_w p_w) (h_w : (¬ (fr_w p_w = od i_w ∧ tok p_w = false) ∧ V' = V) ∨ ((fr_w p_w = od i_w ∧ tok p_w = false) ∧ (∀ x, x ≠ to_w p_w → V' x = V x) ∧ V' (to_w p_w) = if V (fr_w p_w) = -1 then V (to_w p_w) else if V (to_w p_w) < V (fr_w p_w) + dl (fr_w p_w) then V (fr_w p_w) + dl (fr_w p_w) else V (to_w p_w))) : GIw P_w E_w C_w fr_w to_w od tok dl f_w k_w U_w V' i_w (p_w + 1) := by
  obtain ⟨g1, g2, g3_w, g4⟩ := G_w
  obtain ⟨o1, o2, o3_w, o4_w⟩ := O_w
  rcases h_w with ⟨h1, h2⟩ | ⟨⟨h1, h2⟩, h3, h4⟩
  · rw [h2]
    refine ⟨g1, g2, g3_w, fun q_w q1_w q2_w q3_w q4_w => ?_⟩
    by_cases z_w : q_w = p_w
    · rw [z_w] at q3_w q4_w
      exact absurd ⟨q3_w, q4_w⟩ h1
    · exact g4 q_w (by omega) q2_w q3_w q4_w
  · -- the place leads on to_w a later one
    obtain ⟨j_w, j1, j2_w⟩ := o3_w (to_w p_w) (hf p_w hp).2
    have ij : i_w < j_w := by
      obtain ⟨i', i1_w, i2_w⟩ := o4_w j_w j1 p_w hp j2_w.symm h2
      have : i' = i_w := o2 i' i_w (by omega) hi_w (i2_w.trans h1)
      omega
    have oth : ∀ j', j' ≤ i_w → V' (od j') = V (od j') := fun j' hj => h3 _ (fun q_w => by
      have := o2 j' j_w (by omega) j1 (q_w.trans j2_w.symm)
      omega)
    have up_w : ∀ x, V x ≤ V' x := fun x => by
      by_cases z_w : x = to_w p_w
      · rw [z_w, h4]
        split
        · exact Int.le_refl _
        · split <;> omega
      · rw [h3 x z_w]
        exact Int.le_refl _
    have dp := hd_w (fr_w p_w) (hf p_w hp).1
    refine ⟨fun x hx => ⟨?_, Int.le_trans (g1 x hx).2 (up_w x)⟩, fun j' hj' => ?_, fun j' hj' q_w q1_w q2_w q3_w q4_w => ?_, fun q_w q1_w q2_w q3_w q4_w q5 => ?_⟩
    · by_cases z_w : x = to_w p_w
      · rw [z_w, h4]
        by_cases c1_w : V (fr_w p_w) = -1
        · rw [if_pos c1_w]
          exact (g1 _ (hf p_w hp).2).1
        · rw [if_neg c1_w]
          by_cases c2_w : V (to_w p_w) < V (fr_w p_w) + dl (fr_w p_w)
          · rw [if_pos c2_w]
            rcases (g1 _ (hf p_w hp).1).1 with w_w | ⟨w1_w, l, w2_w, w3_w, w4_w⟩
            · exact absurd w_w c1_w
            · refine Or.inr ⟨by omega, p_w :: l, ⟨hp, rfl, w2_w⟩, ?_, ?_⟩
              · show (if tok p_w = true then 1 else 0) + tkw tok l = k_w
                rw [h2, if_neg (by decide), w3_w]
                omega
              · show dl (fr_w p_w) + wtw fr_w dl l = _
                rw [w4_w]
                omega
          · rw [if_neg c2_w]
            exact (g1 _ (hf p_w hp).2).1
      · rw [h3 x z_w]
        exact (g1 x hx).1
    · by_cases z_w : od j' = to_w p_w
      · have jj : j' = j_w := o2 j' j_w hj' j1 (z_w.trans j2_w.symm)
        rw [z_w, h4]
        have b1 := g2 j' hj'
        rw [z_w] at b1
        have b2 := g2 i_w hi_w
        rw [← h1] at b2
        split
        · exact b1
        · split
          · omega
          · exact b1
      · rw [h3 _ z_w]
        exact g2 j' hj'
    · rw [oth j' (by omega)] at q4_w ⊢
      exact Int.le_trans (g3_w j' hj' q_w q1_w q2_w q3_w q4_w) (up_w _)
    · rw [oth i_w (Nat.le_refl _)] at q5 ⊢
      by_cases z_w : q_w = p_w
      · rw [z_w, h4, h1, if_neg q5]
        split <;> omega
      · exact Int.le_trans (g4 q_w (by omega) q2_w q3_w q4_w q5) (up_w _)
theorem GIw.nx {P_w E_w C_w : Nat} {fr_w to_w od : Nat → Nat} {tok : Nat → Bool} {dl : Nat → Int} {f_w k_w : Nat} {U_w V : Nat → Int} {i_w p_w : Nat} (G_w : GIw P_w E_w C_w fr_w to_w od tok dl f_w k_w U_w V i_w p_w) (h_w : ∀ q_w, p_w ≤ q_w → q_w < P_w → ¬ (fr_w q_w = od i_w ∧ tok q_w = false)) : GIw P_w E_w C_w fr_w to_w od tok dl f_w k_w U_w V (i_w + 1) 0 := by
  obtain ⟨g1, g2, g3_w, g4⟩ := G_w
  refine ⟨g1, g2, fun j_w hj q_w q1_w q2_w q3_w q4_w => ?_, fun q_w q1_w => absurd q1_w (Nat.not_lt_zero q_w)⟩
  by_cases z_w : j_w = i_w
  · rw [z_w] at q2_w q4_w ⊢
    by_cases y_w : q_w < p_w
    · exact g4 q_w y_w q1_w q2_w q3_w q4_w
    · exact absurd ⟨q2_w, q3_w⟩ (h_w q_w (by omega) q1_w)
  · exact g3_w j_w (by omega) q_w q1_w q2_w q3_w q4_w
/-- the class goes on over places without token -/
theorem go_w {a E_w P_w C_w f_w k_w : Nat} {fr_w to_w od : Nat → Nat} {m_w e : dc_M} {w_w : Nat} (ha_w : a = 41 ∨ a = 52) (N_w : NTw a E_w P_w fr_w to_w m_w) (G_w : GDw a E_w P_w fr_w to_w od m_w) (hw : m_w.2.2.1 30 8 = w_w) (hw3 : w_w = 34 ∨ w_w = 35) (hC : C_w ≤ 50000) (hU : ∀ x, x < E_w → SNx P_w fr_w to_w (fun p_w => b32 (m_w.1 a 13) p_w) (fun e => (m_w.1 (a + 8) e).toInt) f_w k_w x (m_w.1 w_w x).toInt ∧ (m_w.1 w_w x).toInt ≤ C_w) (h_w : d_X5_goOnWithoutToken 30 a m_w = some e) : e.2 = m_w.2 ∧ (∀ y_w, y_w ≠ w_w → e.1 y_w = m_w.1 y_w) ∧ (∀ x, x < E_w → SNx P_w fr_w to_w (fun p_w => b32 (m_w.1 a 13) p_w) (fun e => (m_w.1 (a + 8) e).toInt) f_w k_w x (e.1 w_w x).toInt ∧ (m_w.1 w_w x).toInt ≤ (e.1 w_w x).toInt ∧ (e.1 w_w x).toInt ≤ C_w + 320) ∧ ∀ q_w, q_w < P_w → b32 (m_w.1 a 13) q_w = false → (e.1 w_w (fr_w q_w)).toInt ≠ -1 → (e.1 w_w (fr_w q_w)).toInt + (m_w.1 (a + 8) (fr_w q_w)).toInt ≤ (e.1 w_w (to_w q_w)).toInt := by
  have E16 := N_w.1.2
  have P20 := N_w.2.1.2
  obtain ⟨g1, g2, g3_w, O_w⟩ := G_w
  have hf : ∀ p_w, p_w < P_w → fr_w p_w < E_w ∧ to_w p_w < E_w := fun p_w hp => ⟨(N_w.2.2.1 p_w hp).1, (N_w.2.2.1 p_w hp).2.1⟩
  have hd_w := N_w.2.2.2.2
  -- inner_w
  have inner_w : ∀ (i_w : Nat) (zm : dc_M) (u_w : (Int32 × dc_M) ⊕ dc_M), i_w < E_w → zm.2 = m_w.2 → (∀ y_w, y_w ≠ w_w → zm.1 y_w = m_w.1 y_w) → GIw P_w E_w C_w fr_w to_w od (fun p_w => b32 (m_w.1 a 13) p_w) (fun e => (m_w.1 (a + 8) e).toInt) f_w k_w (fun x => (m_w.1 w_w x).toInt) (fun x => (zm.1 w_w x).toInt) i_w 0 → d_X5_goOnWithoutToken_l32 30 a (Int32.ofNat i_w) (m_w.1 (a + 7) (od i_w) &&& (m_w.1 a 13 ^^^ -1)) 0 zm = some u_w → ∃ zm', u_w = .inl (Int32.ofNat (i_w + 1), zm') ∧ zm'.2 = m_w.2 ∧ (∀ y_w, y_w ≠ w_w → zm'.1 y_w = m_w.1 y_w) ∧ GIw P_w E_w C_w fr_w to_w od (fun p_w => b32 (m_w.1 a 13) p_w) (fun e => (m_w.1 (a + 8) e).toInt) f_w k_w (fun x => (m_w.1 w_w x).toInt) (fun x => (zm'.1 w_w x).toInt) (i_w + 1) 0 := fun i_w zm u_w hi_w z2 z1 I_w hu => by
    have oi := O_w.1 i_w hi_w
    have i1_w : Int32.ofNat i_w + 1 = Int32.ofNat (i_w + 1) := on_1 (by omega)
    obtain ⟨X_w, hX⟩ : ∃ X_w, m_w.1 (a + 7) (od i_w) &&& (m_w.1 a 13 ^^^ -1) = X_w := ⟨_, rfl⟩
    have em : ∀ p_w, p_w < P_w → (b32 X_w p_w = true ↔ (fr_w p_w = od i_w ∧ b32 (m_w.1 a 13) p_w = false)) := fun p_w hp => by
      have t_w := ((N_w.2.2.1 p_w hp).2.2 (od i_w) oi).2
      rw [← hX, b32_and, b32_xor, b32_m1 (by omega), Bool.and_eq_true, t_w]
      generalize b32 (m_w.1 a 13) p_w = z_w
      cases z_w <;> simp
    rw [hX] at hu
    unfold d_X5_goOnWithoutToken_l32 at hu
    have step_w : ∀ (p_w : Nat) (ym : dc_M) (r_w : (Int32 × dc_M) ⊕ ((Int32 × dc_M) ⊕ dc_M)), p_w ≤ P_w → ym.2 = m_w.2 → (∀ y_w, y_w ≠ w_w → ym.1 y_w = m_w.1 y_w) → GIw P_w E_w C_w fr_w to_w od (fun p_w => b32 (m_w.1 a 13) p_w) (fun e => (m_w.1 (a + 8) e).toInt) f_w k_w (fun x => (m_w.1 w_w x).toInt) (fun x => (ym.1 w_w x).toInt) i_w p_w → d_X5_goOnWithoutToken_l32b 30 a (Int32.ofNat i_w) X_w (Int32.ofNat p_w) ym = some r_w → (r_w = .inr (.inl (Int32.ofNat (i_w + 1), ym)) ∧ ∀ q_w, p_w ≤ q_w → q_w < P_w → ¬ (fr_w q_w = od i_w ∧ b32 (m_w.1 a 13) q_w = false)) ∨ (p_w < P_w ∧ ∃ ym', r_w = .inl (Int32.ofNat (p_w + 1), ym') ∧ ym'.2 = m_w.2 ∧ (∀ y_w, y_w ≠ w_w → ym'.1 y_w = m_w.1 y_w) ∧ GIw P_w E_w C_w fr_w to_w od (fun p_w => b32 (m_w.1 a 13) p_w) (fun e => (m_w.1 (a + 8) e).toInt) f_w k_w (fun x => (m_w.1 w_w x).toInt) (fun x => (ym'.1 w_w x).toInt) i_w (p_w + 1)) := fun p_w ym r_w hp y2 y1 J hr => by
      have pt : (Int32.ofNat p_w).toInt = p_w := mk_i (by omega)
      have pn : (Int32.ofNat p_w).toNatClampNeg = p_w := on_n (by omega)
      have p1_w : Int32.ofNat p_w + 1 = Int32.ofNat (p_w + 1) := on_1 (by omega)
      have ya : ym.1 a = m_w.1 a := y1 a (by omega)
      unfold d_X5_goOnWithoutToken_l32b at hr
      rw [ya, N_w.2.1.1, pt, i1_w, p1_w] at hr
      by_cases c1_w : (P_w : Int) ≤ p_w
      · rw [if_pos c1_w] at hr
        exact Or.inl ⟨(Option.some.inj hr).symm, fun q_w q1_w q2_w => by omega⟩
      · rw [if_neg c1_w] at hr
        have pP_w : p_w < P_w := by omega
        by_cases c2_w : (X_w >>> (Int32.ofNat p_w &&& 31)).toInt = 0
        · rw [if_pos c2_w] at hr
          have z_w := shz_w pt (by omega) c2_w
          refine Or.inl ⟨(Option.some.inj hr).symm, fun q_w q1_w q2_w q3_w => ?_⟩
          have := (em q_w q2_w).mpr q3_w
          rw [z_w q_w q1_w (by omega)] at this
          cases this
        · rw [if_neg c2_w] at hr
          have t_w := b32_t (x := X_w) (e := Int32.ofNat p_w) ⟨by omega, by omega⟩
          rw [pn] at t_w
          refine Or.inr ⟨pP_w, ?_⟩
          by_cases c3_w : b32 X_w p_w = true
          · rw [if_neg (fun q_w => by have := t_w.mp q_w; rw [c3_w] at this; cases this), dc_let_eq] at hr
            obtain ⟨e1_w, e2_w⟩ := (em p_w pP_w).mp c3_w
            have yw : ym.2.2.1 30 8 = w_w := by rw [y2]; exact hw
            have y8 : ym.1 (a + 8) = m_w.1 (a + 8) := y1 _ (by omega)
            have fl_w : -1 ≤ (ym.1 w_w (fr_w p_w)).toInt := by
              rcases (J.1 _ (hf p_w pP_w).1).1 with v_w | v_w
              · have v_w : (ym.1 w_w (fr_w p_w)).toInt = -1 := v_w
                omega
              · have v_w : 0 ≤ (ym.1 w_w (fr_w p_w)).toInt := v_w.1
                omega
            have fu : (ym.1 w_w (fr_w p_w)).toInt ≤ C_w + 20 * i_w := by rw [e1_w]; exact J.2.1 i_w hi_w
            rw [yw] at hr
            obtain ⟨l1, l2, l3⟩ := len_w (a := a) (s := w_w) (by rw [y1 31 (by omega)]; exact (g1 p_w pP_w).1) (by rw [y1 32 (by omega)]; exact (g1 p_w pP_w).2) (by omega) (by have := (hf p_w pP_w).1; omega) (by have := (hf p_w pP_w).2; omega) yw ⟨fl_w, by omega⟩ (by rw [y8]; exact hd_w _ (hf p_w pP_w).1)
            refine ⟨_, (Option.some.inj hr).symm, l1.trans y2, fun y_w hy => ?_, ?_⟩
            · rw [← y1 y_w hy]
              exact funext (fun k_w => l2 y_w k_w (fun q_w => hy q_w.1))
            · rw [y8] at l3
              exact J.st O_w hf hd_w hi_w pP_w (Or.inr ⟨⟨e1_w, e2_w⟩, fun x hx => by show (_ : Int32).toInt = (_ : Int32).toInt; rw [l2 w_w x (fun q_w => hx q_w.2)], l3⟩)
          · rw [if_pos (t_w.mpr (eq_false_of_ne_true c3_w))] at hr
            exact ⟨ym, (Option.some.inj hr).symm, y2, y1, J.st O_w hf hd_w hi_w pP_w (Or.inl ⟨fun q_w => c3_w ((em p_w pP_w).mpr q_w), rfl⟩)⟩
    refine dc_lp_inv (s := ((0 : Int32), zm)) (fun s : Int32 × dc_M => ∃ p_w : Nat, p_w ≤ P_w ∧ s.1 = Int32.ofNat p_w ∧ s.2.2 = m_w.2 ∧ (∀ y_w, y_w ≠ w_w → s.2.1 y_w = m_w.1 y_w) ∧ GIw P_w E_w C_w fr_w to_w od (fun p_w => b32 (m_w.1 a 13) p_w) (fun e => (m_w.1 (a + 8) e).toInt) f_w k_w (fun x => (m_w.1 w_w x).toInt) (fun x => (s.2.1 w_w x).toInt) i_w p_w) (fun u_w : (Int32 × dc_M) ⊕ dc_M => ∃ zm', u_w = .inl (Int32.ofNat (i_w + 1), zm') ∧ zm'.2 = m_w.2 ∧ (∀ y_w, y_w ≠ w_w → zm'.1 y_w = m_w.1 y_w) ∧ GIw P_w E_w C_w fr_w to_w od (fun p_w => b32 (m_w.1 a 13) p_w) (fun e => (m_w.1 (a + 8) e).toInt) f_w k_w (fun x => (m_w.1 w_w x).toInt) (fun x => (zm'.1 w_w x).toInt) (i_w + 1) 0) (fun s s' hI hs => ?_) (fun s u_w hI hs => ?_) ⟨0, Nat.zero_le _, rfl, z2, z1, I_w⟩ hu
    · obtain ⟨p_w, q1_w, q2_w, q3_w, q4_w, q5⟩ := hI
      obtain ⟨y_w, ym⟩ := s
      have q2_w : y_w = Int32.ofNat p_w := q2_w
      have hs : d_X5_goOnWithoutToken_l32b 30 a (Int32.ofNat i_w) X_w y_w ym = some (.inl s') := hs
      rw [q2_w] at hs
      rcases step_w p_w ym _ q1_w q3_w q4_w q5 hs with ⟨r1_w, -⟩ | ⟨r0, ym', r1_w, r2⟩
      · cases r1_w
      · have r1_w := Sum.inl.inj r1_w
        rw [r1_w]
        exact ⟨p_w + 1, by omega, rfl, r2⟩
    · obtain ⟨p_w, q1_w, q2_w, q3_w, q4_w, q5⟩ := hI
      obtain ⟨y_w, ym⟩ := s
      have q2_w : y_w = Int32.ofNat p_w := q2_w
      have hs : d_X5_goOnWithoutToken_l32b 30 a (Int32.ofNat i_w) X_w y_w ym = some (.inr u_w) := hs
      rw [q2_w] at hs
      rcases step_w p_w ym _ q1_w q3_w q4_w q5 hs with ⟨r1_w, r2⟩ | ⟨r0, ym', r1_w, -⟩
      · exact ⟨ym, Sum.inr.inj r1_w, q3_w, q4_w, q5.nx r2⟩
      · cases r1_w
  unfold d_X5_goOnWithoutToken d_X5_goOnWithoutToken_l2 at h_w
  have body_w : ∀ (i_w : Nat) (zm : dc_M) (r_w : (Int32 × dc_M) ⊕ dc_M), i_w < E_w → zm.2 = m_w.2 → (∀ y_w, y_w ≠ w_w → zm.1 y_w = m_w.1 y_w) → d_X5_goOnWithoutToken_l2b 30 a (Int32.ofNat i_w) zm = some r_w → d_X5_goOnWithoutToken_l32 30 a (Int32.ofNat i_w) (m_w.1 (a + 7) (od i_w) &&& (m_w.1 a 13 ^^^ -1)) 0 zm = some r_w := fun i_w zm r_w hi_w z2 z1 hz => by
    have oi := O_w.1 i_w hi_w
    unfold d_X5_goOnWithoutToken_l2b at hz
    rw [z1 30 (by omega), g2, mk_i (by omega), mk_i (by omega), if_neg (show ¬ (E_w : Int) ≤ i_w by omega), show 30 + 3 = 33 from rfl, z1 33 (by omega), on_n (by omega), g3_w i_w hi_w, on_n (by omega), z1 (a + 7) (by omega), z1 a (by omega)] at hz
    exact hz
  refine dc_lp_inv (s := ((0 : Int32), m_w)) (fun s : Int32 × dc_M => ∃ i_w : Nat, i_w ≤ E_w ∧ s.1 = Int32.ofNat i_w ∧ s.2.2 = m_w.2 ∧ (∀ y_w, y_w ≠ w_w → s.2.1 y_w = m_w.1 y_w) ∧ GIw P_w E_w C_w fr_w to_w od (fun p_w => b32 (m_w.1 a 13) p_w) (fun e => (m_w.1 (a + 8) e).toInt) f_w k_w (fun x => (m_w.1 w_w x).toInt) (fun x => (s.2.1 w_w x).toInt) i_w 0) (fun e : dc_M => e.2 = m_w.2 ∧ (∀ y_w, y_w ≠ w_w → e.1 y_w = m_w.1 y_w) ∧ (∀ x, x < E_w → SNx P_w fr_w to_w (fun p_w => b32 (m_w.1 a 13) p_w) (fun e => (m_w.1 (a + 8) e).toInt) f_w k_w x (e.1 w_w x).toInt ∧ (m_w.1 w_w x).toInt ≤ (e.1 w_w x).toInt ∧ (e.1 w_w x).toInt ≤ C_w + 320) ∧ ∀ q_w, q_w < P_w → b32 (m_w.1 a 13) q_w = false → (e.1 w_w (fr_w q_w)).toInt ≠ -1 → (e.1 w_w (fr_w q_w)).toInt + (m_w.1 (a + 8) (fr_w q_w)).toInt ≤ (e.1 w_w (to_w q_w)).toInt) (fun s s' hI hs => ?_) (fun s e hI hs => ?_) ⟨0, Nat.zero_le _, rfl, rfl, fun _ _ => rfl, fun x hx => ⟨(hU x hx).1, Int.le_refl _⟩, fun j_w hj => Int.le_trans (hU _ (O_w.1 j_w hj)).2 (by omega), fun j_w hj => absurd hj (Nat.not_lt_zero j_w), fun q_w hq => absurd hq (Nat.not_lt_zero q_w)⟩ h_w
  · obtain ⟨i_w, i1_w, i2_w, i3_w, i4_w, i5_w⟩ := hI
    obtain ⟨y_w, zm⟩ := s
    have i2_w : y_w = Int32.ofNat i_w := i2_w
    have i4_w : ∀ y_w, y_w ≠ w_w → zm.1 y_w = m_w.1 y_w := i4_w
    have hs : d_X5_goOnWithoutToken_l2b 30 a y_w zm = some (.inl s') := hs
    rw [i2_w] at hs
    by_cases c_w : i_w < E_w
    · obtain ⟨zm', r1_w, r2⟩ := inner_w i_w zm _ c_w i3_w i4_w i5_w (body_w i_w zm _ c_w i3_w i4_w hs)
      have r1_w := Sum.inl.inj r1_w
      rw [r1_w]
      exact ⟨i_w + 1, by omega, rfl, r2⟩
    · unfold d_X5_goOnWithoutToken_l2b at hs
      rw [i4_w 30 (by omega), g2, mk_i (by omega), mk_i (by omega), if_pos (show (E_w : Int) ≤ i_w by omega)] at hs
      cases hs
  · obtain ⟨i_w, i1_w, i2_w, i3_w, i4_w, i5_w⟩ := hI
    obtain ⟨y_w, zm⟩ := s
    have i2_w : y_w = Int32.ofNat i_w := i2_w
    have i3_w : zm.2 = m_w.2 := i3_w
    have i4_w : ∀ y_w, y_w ≠ w_w → zm.1 y_w = m_w.1 y_w := i4_w
    have i5_w : GIw P_w E_w C_w fr_w to_w od (fun p_w => b32 (m_w.1 a 13) p_w) (fun e => (m_w.1 (a + 8) e).toInt) f_w k_w (fun x => (m_w.1 w_w x).toInt) (fun x => (zm.1 w_w x).toInt) i_w 0 := i5_w
    have hs : d_X5_goOnWithoutToken_l2b 30 a y_w zm = some (.inr e) := hs
    rw [i2_w] at hs
    by_cases c_w : i_w < E_w
    · obtain ⟨zm', r1_w, -⟩ := inner_w i_w zm _ c_w i3_w i4_w i5_w (body_w i_w zm _ c_w i3_w i4_w hs)
      cases r1_w
    · unfold d_X5_goOnWithoutToken_l2b at hs
      rw [i4_w 30 (by omega), g2, mk_i (by omega), mk_i (by omega), if_pos (show (E_w : Int) ≤ i_w by omega)] at hs
      have hs : zm = e := Sum.inr.inj (Option.some.inj hs)
      rw [← hs]
      have ie : i_w = E_w := by omega
      rw [ie] at i5_w
      obtain ⟨j1, j2_w, j3_w, -⟩ := i5_w
      refine ⟨i3_w, i4_w, fun x hx => ⟨(j1 x hx).1, (j1 x hx).2, ?_⟩, fun q_w q1_w q2_w q3_w => ?_⟩
      · obtain ⟨j_w, y1, y2⟩ := O_w.2.2.1 x hx
        have := j2_w j_w y1
        rw [y2] at this
        exact Int.le_trans this (by omega)
      · obtain ⟨j_w, y1, y2⟩ := O_w.2.2.1 (fr_w q_w) (hf q_w q1_w).1
        have := j3_w j_w y1 q_w q1_w y2.symm q2_w
        rw [y2] at this
        exact this q3_w
