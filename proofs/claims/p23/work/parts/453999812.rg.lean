/-! ===== the class's find, with the beat ===== -/
def SBw (a_w : Nat) (c_w : dc_M) : Prop := ∃ E_w P_w fr_w to_w od, NTw a_w E_w P_w fr_w to_w c_w ∧ ONs a_w P_w fr_w to_w c_w ∧ GDw a_w E_w P_w fr_w to_w od c_w ∧ ∃ N D_w : Int, BSx E_w P_w fr_w to_w (fun p_w => b32 (c_w.1 a_w 13) p_w) (fun e_w => (c_w.1 (a_w + 8) e_w).toInt) N D_w (c_w.1 30 3) ∧ ((D_w = 0 ∧ (c_w.1 30 1).toInt = 0 ∧ (c_w.1 30 2).toInt = 0) ∨ ∃ n_w d_w : Nat, N = n_w ∧ D_w = d_w ∧ 1 ≤ d_w ∧ (c_w.1 30 1).toInt = (n_w / Nat.gcd n_w d_w : Nat) ∧ (c_w.1 30 2).toInt = (d_w / Nat.gcd n_w d_w : Nat))
theorem find_b {a_w E_w P_w : Nat} {c_w c' : dc_M} (ha_w : a_w = 41 ∨ a_w = 52) (D_w : NDw a_w E_w P_w c_w) (F_w : RFw c_w) (l34 : (c_w.2.2.2 34).2 = 16) (l35 : (c_w.2.2.2 35).2 = 16) (h_w : d_X5_find 30 a_w c_w = some c') (h0 : ¬ (c'.1 30 0).toInt = 0) : SBw a_w c' := by
  obtain ⟨M_w, hM_w⟩ : ∃ M_w, dc_wi (dc_wi (dc_wi c_w 30 1 0) 30 2 0) 30 3 0 = M_w := ⟨_, rfl⟩
  have m2_w : M_w.2 = c_w.2 := by rw [← hM_w]; rfl
  have m1_w : ∀ y_w, y_w ≠ 30 → M_w.1 y_w = c_w.1 y_w := fun y_w hy => by
    rw [← hM_w]
    exact funext (fun k_w => ((wi_k (by omega)).trans (wi_k (by omega))).trans (wi_k (by omega)))
  have mz : M_w.1 30 1 = 0 ∧ M_w.1 30 2 = 0 ∧ M_w.1 30 3 = 0 := by
    rw [← hM_w]
    refine ⟨?_, ?_, wi_s⟩
    · rw [wi_k (by omega), wi_k (by omega), wi_s]
    · rw [wi_k (by omega), wi_s]
  unfold d_X5_find at h_w
  rw [hM_w] at h_w
  have un : ∀ z_w : dc_M, d_X5_find_b37 30 a_w 0 30 z_w = some c' → False := fun z_w hz => by
    unfold d_X5_find_b37 at hz
    rw [wi_s, if_neg (fun q_w => q_w rfl)] at hz
    have hz := Option.some.inj hz
    rw [← hz, wi_s] at h0
    exact h0 rfl
  cases h1 : d_X5_findEnds 30 a_w M_w with
  | none => rw [h1] at h_w; cases h_w
  | some q1_w =>
    rw [h1, Option.bind_some] at h_w
    obtain ⟨x1_w, y1⟩ := q1_w
    have nb : ∀ p_w, p_w < P_w → ∀ k_w, k_w < 32 → 16 ≤ k_w → b32 (M_w.1 (a_w + 9) p_w) k_w = false ∧ b32 (M_w.1 (a_w + 10) p_w) k_w = false := fun p_w hp k_w hk h16_w => by
      rw [m1_w (a_w + 9) (by omega), m1_w (a_w + 10) (by omega)]
      have w_w := D_w.2.2.1 p_w hp k_w hk
      have := D_w.1.2
      rw [w_w.1, w_w.2, decide_eq_false (show ¬ (k_w : Int) < E_w by omega), Bool.false_and, Bool.false_and]
      exact ⟨rfl, rfl⟩
    obtain ⟨⟨f2_w, f1_w⟩, fe⟩ := fe_w ha_w (by rw [m1_w a_w (by omega)]; exact D_w.2.1.1) D_w.2.1.2 nb h1
    have c1_w : ∀ y_w, ¬ (30 ≤ y_w ∧ y_w ≤ 36) → y1.1 y_w = c_w.1 y_w := fun y_w hy => (f1_w y_w (by omega) (by omega)).trans (m1_w y_w (by omega))
    have c2_w : y1.2 = c_w.2 := f2_w.trans m2_w
    rcases fe with ⟨x1e, fe⟩ | ⟨x1e, -⟩
    · have x1e : x1_w = 1 := x1e
      rw [x1e, if_neg (show ¬ (1 : Int32).toInt = 0 by decide)] at h_w
      have ch_w : ∀ p_w, ∃ ft : Nat × Nat, p_w < P_w → (ONw (M_w.1 (a_w + 9) p_w) ft.1 ∧ y1.1 31 p_w = Int32.ofNat ft.1) ∧ ONw (M_w.1 (a_w + 10) p_w) ft.2 ∧ y1.1 32 p_w = Int32.ofNat ft.2 := fun p_w => by
        by_cases z_w : p_w < P_w
        · obtain ⟨f_w, t_w, w_w⟩ := fe p_w z_w
          exact ⟨(f_w, t_w), fun _ => w_w⟩
        · exact ⟨(0, 0), fun w_w => absurd w_w z_w⟩
      obtain ⟨g_w, hg⟩ := Classical.axiomOfChoice ch_w
      obtain ⟨fr_w, hfr⟩ : ∃ fr_w : Nat → Nat, ∀ p_w, fr_w p_w = (g_w p_w).1 := ⟨fun p_w => (g_w p_w).1, fun _ => rfl⟩
      obtain ⟨to_w, hto⟩ : ∃ to_w : Nat → Nat, ∀ p_w, to_w p_w = (g_w p_w).2 := ⟨fun p_w => (g_w p_w).2, fun _ => rfl⟩
      have ON : ONs a_w P_w fr_w to_w c_w := fun p_w hp => by
        have w_w := hg p_w hp
        rw [← hfr, ← hto, m1_w (a_w + 9) (by omega), m1_w (a_w + 10) (by omega)] at w_w
        exact ⟨w_w.1.1, w_w.2.1⟩
      have NT := nt_w D_w ON
      cases h2 : d_X5_putInOrder 30 a_w y1 with
      | none => rw [h2] at h_w; cases h_w
      | some q2_w =>
        rw [h2, Option.bind_some] at h_w
        obtain ⟨x2_w, y2⟩ := q2_w
        have NY : NTw a_w E_w P_w fr_w to_w y1 := NT.eqw (fun b_w b1 b2 => c1_w b_w (by omega))
        obtain ⟨⟨g2, g3_w, g1⟩, po⟩ := po_w ha_w NY (fun p_w hp => by rw [hfr]; exact (hg p_w hp).1.2) h2
        have d1_w : ∀ y_w, ¬ (30 ≤ y_w ∧ y_w ≤ 36) → y2.1 y_w = c_w.1 y_w := fun y_w hy => (g1 y_w (by omega) (by omega)).trans (c1_w y_w hy)
        have d2_w : y2.2 = c_w.2 := g2.trans c2_w
        rw [c1_w a_w (by omega)] at po
        rcases po with ⟨x2e, od, o1, o2, o3_w⟩ | ⟨x2e, -⟩
        · have x2e : x2_w = 1 := x2e
          rw [x2e, if_neg (show ¬ (1 : Int32).toInt = 0 by decide)] at h_w
          unfold d_X5_find_b37 at h_w
          rw [wi_s, if_pos (show ¬ (1 : Int32).toInt = 0 by decide)] at h_w
          obtain ⟨B_w, hB_w⟩ : ∃ B_w, dc_wi y2 30 0 1 = B_w := ⟨_, rfl⟩
          rw [hB_w] at h_w
          have b2 : B_w.2 = c_w.2 := by rw [← hB_w]; exact d2_w
          have b1 : ∀ y_w, y_w ≠ 30 → B_w.1 y_w = y2.1 y_w := fun y_w hy => by
            rw [← hB_w]
            exact funext (fun k_w => wi_k (by omega))
          have bz : ∀ k_w, k_w ≠ 0 → B_w.1 30 k_w = y2.1 30 k_w := fun k_w hk => by rw [← hB_w]; exact wi_k (by omega)
          have NB_ : NTw a_w E_w P_w fr_w to_w B_w := NT.eqw (fun b_w e1_w e2_w => by rw [b1 b_w (by omega)]; exact d1_w b_w (by omega))
          have OB : ONs a_w P_w fr_w to_w B_w := ON.eqw (fun b_w e1_w e2_w => by rw [b1 b_w (by omega)]; exact d1_w b_w (by omega))
          have GB : GDw a_w E_w P_w fr_w to_w od B_w := by
            refine ⟨fun p_w hp => ?_, ?_, fun j_w hj => ?_, ?_⟩
            · rw [b1 31 (by decide), b1 32 (by decide), g1 31 (by decide) (by decide), g1 32 (by decide) (by decide), hfr, hto]
              exact ⟨(hg p_w hp).1.2, (hg p_w hp).2.2⟩
            · rw [bz 7 (by decide)]; exact o1
            · rw [b1 33 (by decide)]; exact o2 j_w hj
            · rw [b1 a_w (by omega), d1_w a_w (by omega)]; exact o3_w
          have zz : B_w.1 30 1 = 0 ∧ B_w.1 30 2 = 0 ∧ B_w.1 30 3 = 0 := by
            rw [bz 1 (by decide), bz 2 (by decide), bz 3 (by decide), g3_w 1 (by decide), g3_w 2 (by decide), g3_w 3 (by decide), f1_w 30 (by decide) (by decide)]
            exact mz
          obtain ⟨zm, W_w, CW, hb_w⟩ := l50_w ha_w NB_ GB (by unfold RFw; rw [b2]; exact F_w) (by rw [b2]; exact l34) (by rw [b2]; exact l35) h_w
          have hf : ∀ p_w, p_w < P_w → fr_w p_w < E_w ∧ to_w p_w < E_w := fun p_w hp => ⟨(NB_.2.2.1 p_w hp).1, (NB_.2.2.1 p_w hp).2.1⟩
          have z30 : zm.1 30 = B_w.1 30 := W_w.1 30 (by decide) (by decide) (by decide)
          obtain ⟨ym, YF, YB, hr⟩ := @fb_w E_w zm c' (zm.1 a_w 1) (by rw [W_w.1 a_w (by omega) (by omega) (by omega)]; exact NB_.1.1) D_w.1.2 (fun f_w k_w h1 h2 h3 => by
            have w_w := CW f_w h1 k_w h2 h3
            refine ⟨?_, w_w.2⟩
            rcases w_w.1.1 with v_w | v_w
            · show -1 ≤ (zm.1 36 (17 * f_w + k_w)).toInt
              omega
            · show -1 ≤ (zm.1 36 (17 * f_w + k_w)).toInt
              omega) (by rw [z30]; exact zz.1) (by rw [z30]; exact zz.2.1) (by rw [z30]; exact zz.2.2) hb_w
          have BS_w := bst_w D_w.1.2 hf NB_.2.2.2.2 GB.2.2.2 (fun f_w h1 k_w h2 h3 => (CW f_w h1 k_w h2 h3).1) YB
          have nd_w : (0 ≤ (ym.1 30 1).toInt ∧ (ym.1 30 1).toInt ≤ 6000) ∧ 0 ≤ (ym.1 30 2).toInt ∧ (ym.1 30 2).toInt ≤ 16 := by
            rcases YB with ⟨q1_w, q2_w, -⟩ | ⟨q1_w, q2_w, -⟩ <;> omega
          obtain ⟨n_w, hn⟩ : ∃ n_w : Nat, (ym.1 30 1).toInt = n_w := ⟨(ym.1 30 1).toInt.toNat, by omega⟩
          obtain ⟨d_w, hd_w⟩ : ∃ d_w : Nat, (ym.1 30 2).toInt = d_w := ⟨(ym.1 30 2).toInt.toNat, by omega⟩
          obtain ⟨R1, R2, R3⟩ := red_w hn hd_w (by omega) (by omega) hr
          have ec : ∀ y_w, y_w ≠ 30 → y_w ≠ 34 → y_w ≠ 35 → y_w ≠ 36 → c'.1 y_w = B_w.1 y_w := fun y_w h1 h2 h3 h4 => by
            rw [← W_w.1 y_w h2 h3 h4]
            exact funext (fun k_w => (R1 y_w k_w (by omega)).trans (YF y_w k_w (by omega)))
          have e3_w : c'.1 30 3 = ym.1 30 3 := R1 30 3 (by omega)
          refine ⟨E_w, P_w, fr_w, to_w, od, NB_.eqw (fun b_w e1_w e2_w => ec b_w (by omega) (by omega) (by omega) (by omega)), OB.eqw (fun b_w e1_w e2_w => ec b_w (by omega) (by omega) (by omega) (by omega)), GB.eqw (by rw [R1 30 7 (by omega), YF 30 7 (by omega), z30]) (ec 31 (by decide) (by decide) (by decide) (by decide)) (ec 32 (by decide) (by decide) (by decide) (by decide)) (ec 33 (by decide) (by decide) (by decide) (by decide)) (by rw [ec a_w (by omega) (by omega) (by omega) (by omega)]), n_w, d_w, ?_, ?_⟩
          · rw [e3_w, ec a_w (by omega) (by omega) (by omega) (by omega), ec (a_w + 8) (by omega) (by omega) (by omega) (by omega), ← hn, ← hd_w]
            exact BS_w
          · by_cases z_w : d_w = 0
            · left
              have n0_w : n_w = 0 := by
                rcases YB with ⟨q1_w, q2_w, -⟩ | ⟨q1_w, q2_w, -⟩ <;> omega
              have := R2 z_w n0_w
              rw [this, hn, hd_w, n0_w, z_w]
              exact ⟨rfl, rfl, rfl⟩
            · right
              obtain ⟨r1_w, r2⟩ := R3 (by omega)
              exact ⟨n_w, d_w, rfl, rfl, by omega, r1_w, r2⟩
        · have x2e : x2_w = 0 := x2e
          rw [x2e, if_pos (show (0 : Int32).toInt = 0 from rfl)] at h_w
          exact (un y2 h_w).elim
    · have x1e : x1_w = 0 := x1e
      rw [x1e, if_pos (show (0 : Int32).toInt = 0 from rfl)] at h_w
      exact (un y1 h_w).elim
