/-! ===== cost: the reference's least letters are the class's ===== -/
theorem cvm_w {n_w : Nat} {C_w : Nat → Int64} {G_w : Nat → Int} {lt_w : Nat → Nat} {on : Int64} (hG : ∀ k_w, k_w < n_w → G_w k_w = lt_w k_w) : ∀ {T : List Nat} {m_w : Nat} {has_w : Int64} {left_w : Int}, (∀ p_w, p_w ∈ T → p_w < n_w) → T.length ≤ m_w → (wsw lt_w T : Int) ≤ left_w → (∀ l, l < 64 → mk_bt on l = true → mk_bt has_w l = true ∨ ∃ p_w, p_w ∈ T ∧ mk_bt (C_w p_w) l = true) → mk_can n_w C_w G_w on m_w has_w left_w
  | [], m_w, has_w, left_w, _, _, _, h_w => mk_can_of_all (fun i_w hi_w ho => (h_w i_w hi_w ho).resolve_right (fun ⟨p_w, p1_w, _⟩ => by cases p1_w))
  | p_w :: T, 0, has_w, left_w, _, h_w, _, _ => absurd h_w (Nat.not_succ_le_zero _)
  | p_w :: T, m_w + 1, has_w, left_w, h1, h2, h3, h4 => by
    have pn := h1 p_w List.mem_cons_self
    have h3 : ((lt_w p_w + wsw lt_w T : Nat) : Int) ≤ left_w := h3
    have g_w := hG p_w pn
    refine Or.inr ⟨p_w, pn, by omega, cvm_w hG (T := T) (fun q_w hq => h1 q_w (List.mem_cons_of_mem _ hq)) (Nat.le_of_succ_le_succ h2) (by omega) (fun l hl ho => ?_)⟩
    rw [mk_or, Bool.or_eq_true]
    rcases h4 l hl ho with w_w | ⟨q_w, q1_w, q2_w⟩
    · exact Or.inl (Or.inl w_w)
    · rcases List.mem_cons.mp q1_w with z_w | z_w
      · rw [z_w] at q2_w; exact Or.inl (Or.inr q2_w)
      · exact Or.inr ⟨q_w, z_w, q2_w⟩
theorem mvc_w {n_w : Nat} {C_w : Nat → Int64} {G_w : Nat → Int} {lt_w : Nat → Nat} {on : Int64} (hG : ∀ k_w, k_w < n_w → G_w k_w = lt_w k_w) : ∀ {m_w : Nat} {has_w : Int64} {left_w : Int}, 0 ≤ left_w → mk_can n_w C_w G_w on m_w has_w left_w → ∃ T : List Nat, (∀ p_w, p_w ∈ T → p_w < n_w) ∧ T.length ≤ m_w ∧ (wsw lt_w T : Int) ≤ left_w ∧ ∀ l, l < 64 → mk_bt on l = true → mk_bt has_w l = true ∨ ∃ p_w, p_w ∈ T ∧ mk_bt (C_w p_w) l = true
  | 0, has_w, left_w, l0, h_w => ⟨[], fun p_w hp => (by cases hp), Nat.le_refl _, l0, fun l hl ho => Or.inl (h_w l hl ho)⟩
  | m_w + 1, has_w, left_w, l0, h_w => by
    rcases h_w with h_w | ⟨k_w, k1_w, k2_w, k3_w⟩
    · exact ⟨[], fun p_w hp => (by cases hp), Nat.zero_le _, l0, fun l hl ho => Or.inl (h_w l hl ho)⟩
    · have g_w := hG k_w k1_w
      obtain ⟨T, t1_w, t2_w, t3_w, t4_w⟩ := mvc_w hG (by omega) k3_w
      refine ⟨k_w :: T, fun q_w hq => ?_, by show T.length + 1 ≤ m_w + 1; omega, by show ((lt_w k_w + wsw lt_w T : Nat) : Int) ≤ left_w; omega, fun l hl ho => ?_⟩
      · rcases List.mem_cons.mp hq with z_w | z_w
        · rw [z_w]; exact k1_w
        · exact t1_w q_w z_w
      · rcases t4_w l hl ho with w_w | ⟨p_w, p1_w, p2_w⟩
        · rw [mk_or, Bool.or_eq_true] at w_w
          rcases w_w with w_w | w_w
          · exact Or.inl w_w
          · exact Or.inr ⟨k_w, List.mem_cons_self, w_w⟩
        · exact Or.inr ⟨p_w, List.mem_cons_of_mem _ p1_w, p2_w⟩
theorem wsw.ad {lt_w wt : Nat → Nat} {n_w : Nat} (h_w : ∀ p_w, p_w < n_w → wt p_w = 256 + lt_w p_w) : ∀ {T : List Nat}, (∀ p_w, p_w ∈ T → p_w < n_w) → wsw wt T = 256 * T.length + wsw lt_w T
  | [], _ => rfl
  | p_w :: T, q_w => by
    have a_w := wsw.ad h_w (T := T) (fun r_w hr => q_w r_w (List.mem_cons_of_mem _ hr))
    have b_w := h_w p_w (q_w p_w List.mem_cons_self)
    show wt p_w + wsw wt T = 256 * (T.length + 1) + (lt_w p_w + wsw lt_w T)
    omega
theorem wsw.ub {lt_w : Nat → Nat} {n_w b_w : Nat} (h_w : ∀ p_w, p_w < n_w → lt_w p_w ≤ b_w) : ∀ {T : List Nat}, (∀ p_w, p_w ∈ T → p_w < n_w) → wsw lt_w T ≤ b_w * T.length
  | [], _ => Nat.zero_le _
  | p_w :: T, q_w => by
    have a_w := wsw.ub h_w (T := T) (fun r_w hr => q_w r_w (List.mem_cons_of_mem _ hr))
    have c_w := h_w p_w (q_w p_w List.mem_cons_self)
    show lt_w p_w + wsw lt_w T ≤ b_w * (T.length + 1)
    rw [Nat.mul_succ]
    omega
theorem lmx_w {W L_w : Nat} {m0_w m' : dc_M} (h0 : m0_w.1 82 0 = Int32.ofNat W) (hW : W ≤ 6) (LS_w : LSx (m0_w.2.1 82 47) (m0_w.2.1 82 48) W L_w) (h_w : d_X10_layMakes 82 m0_w = some m') : m'.1 82 58 = Int32.ofNat L_w ∧ (∀ b_w, b_w ≠ 82 → ¬ (103 ≤ b_w ∧ b_w ≤ 109) → m'.1 b_w = m0_w.1 b_w) ∧ (∀ k_w, k_w ≠ 49 → k_w ≠ 57 → k_w ≠ 58 → m'.1 82 k_w = m0_w.1 82 k_w) ∧ (∀ b_w, b_w ≠ 104 → b_w ≠ 106 → m'.2.1 b_w = m0_w.2.1 b_w) ∧ m'.2.2 = m0_w.2.2 := by
  have h3 := lc_p3 hW
  unfold d_X10_layMakes at h_w
  obtain ⟨q_w, hq, h_w⟩ := Option.bind_eq_some_iff.mp h_w
  obtain ⟨⟨f1_w, f2_w, f3_w, f4_w⟩, f5_w, f6_w⟩ := lcr_w h0 hW hq
  obtain ⟨on, hon⟩ : ∃ on, m0_w.2.1 82 47 = on := ⟨_, rfl⟩
  obtain ⟨off, hoff⟩ : ∃ off, m0_w.2.1 82 48 = off := ⟨_, rfl⟩
  rw [hon, hoff] at f5_w f6_w LS_w
  obtain ⟨M_w, hM_w⟩ : ∃ M_w, dc_wi q_w 82 57 0 = M_w := ⟨_, rfl⟩
  rw [hM_w] at h_w
  have mk_w : ∀ b_w k_w, ¬ (b_w = 82 ∧ k_w = 57) → M_w.1 b_w k_w = q_w.1 b_w k_w := fun b_w k_w hb_w => by rw [← hM_w]; exact wi_k hb_w
  have mb : ∀ b_w, b_w ≠ 82 → M_w.1 b_w = q_w.1 b_w := fun b_w hb_w => funext (fun k_w => mk_w b_w k_w (by omega))
  have m2_w : M_w.2 = q_w.2 := by rw [← hM_w]; rfl
  obtain ⟨n_w, ca, wt, ⟨p1_w, p2_w⟩, T, t1_w, t2_w, t3_w, t4_w⟩ := LS_w
  have hn : M_w.1 82 49 = Int32.ofNat n_w := by rw [mk_w 82 49 (by omega), f5_w, p1_w]
  have n7 : n_w ≤ 729 := by have := PNw.le (on := on) (off := off) (W := W) (3 ^ W); omega
  have e47 : M_w.2.1 82 47 = on := by rw [m2_w, f3_w 82 (by decide)]; exact hon
  obtain ⟨lt_w, hlt⟩ : ∃ lt_w : Nat → Nat, ∀ p_w, lt_w p_w = ((M_w.1 105 p_w).toInt).toNat := ⟨_, fun _ => rfl⟩
  have des : ∀ p_w, p_w < n_w → (M_w.1 105 p_w).toInt = lt_w p_w ∧ lt_w p_w ≤ 6 ∧ wt p_w = 256 + lt_w p_w ∧ ∀ l, l < 64 → mk_bt on l = true → (mk_bt (M_w.2.1 104 p_w) l = true ↔ ca p_w l = true) := fun p_w hp => by
    rw [p1_w] at hp
    obtain ⟨c_w, c1_w, c2_w, c3_w⟩ := PNw.sj hp
    obtain ⟨a1_w, X_w, a2, a3⟩ := f6_w c_w c1_w c2_w
    obtain ⟨b1, b2⟩ := p2_w c_w c1_w c2_w
    rw [c3_w] at a1_w a3 b1 b2
    have l6 := @LTw.le W c_w
    have e1_w : (M_w.1 105 p_w).toInt = LTw W c_w := by rw [mk_w 105 p_w (by omega), a1_w, mk_i (by omega)]
    have e2_w : lt_w p_w = LTw W c_w := by rw [hlt, e1_w]; rfl
    refine ⟨by rw [e1_w, e2_w], by omega, by rw [b1, e2_w], fun l hl ho => ?_⟩
    rw [m2_w, a3, mk_and, ho, Bool.and_true, b2 l]
    exact a2 l hl
  have hG : ∀ k_w, k_w < n_w → mk_G (M_w.1 105) n_w k_w = lt_w k_w := fun k_w hk => by rw [mk_Glt hk]; exact (des k_w hk).1
  have wa : ∀ {K : List Nat}, (∀ p_w, p_w ∈ K → p_w < n_w) → wsw wt K = 256 * K.length + wsw lt_w K := fun {K} hK_w => wsw.ad (fun p_w hp => (des p_w hp).2.2.1) hK_w
  have wu_w : ∀ {K : List Nat}, (∀ p_w, p_w ∈ K → p_w < n_w) → wsw lt_w K ≤ 6 * K.length := fun {K} hK_w => wsw.ub (fun p_w hp => (des p_w hp).2.1) hK_w
  have ta := wa t2_w.1
  have tu := wu_w t2_w.1
  have tL : wsw lt_w T = L_w := by omega
  have canT : ∀ {j_w : Nat} {x_w : Int}, T.length ≤ j_w → (L_w : Int) ≤ x_w → mk_can n_w (M_w.2.1 104) (mk_G (M_w.1 105) n_w) (M_w.2.1 82 47) j_w 0 x_w := fun {j_w x_w} hj hx => cvm_w hG t2_w.1 hj (by rw [tL]; exact hx) (fun l hl ho => by
    rw [e47] at ho
    obtain ⟨p_w, p1', p2'⟩ := t2_w.2 l ho
    exact Or.inr ⟨p_w, p1', ((des p_w (t2_w.1 p_w p1')).2.2.2 l hl ho).mpr p2'⟩)
  obtain ⟨J_w, l, j1, j2_w, j3_w, j4_w, j5_w, j6_w, j7_w, j8_w, j9_w, j10_w⟩ := lm_w hn n7 (fun k_w hk => by have := des k_w hk; omega) (by rw [← hM_w]; exact wi_s) (canT t1_w (by omega)) h_w
  have JT : J_w ≤ T.length := Nat.not_lt.mp (fun z_w => j5_w T.length z_w (canT (Nat.le_refl _) (by omega)))
  obtain ⟨K, k1_w, k2_w, k3_w, k4_w⟩ := mvc_w hG (by omega) j4_w
  have cK : CVw n_w ca (mk_bt on) K := ⟨k1_w, fun x_w hx => by
    have x64 := bl64_w hx
    rcases k4_w x_w x64 (by rw [e47]; exact hx) with w_w | ⟨p_w, p1', p2'⟩
    · rw [mk_zero] at w_w; cases w_w
    · exact ⟨p_w, p1', ((des p_w (k1_w p_w p1')).2.2.2 x_w x64 hx).mp p2'⟩⟩
  have min := t4_w K cK
  have ka := wa k1_w
  have ku := wu_w k1_w
  have eJ : J_w = T.length := by omega
  have lL : l ≤ L_w := Nat.not_lt.mp (fun z_w => j6_w L_w z_w (canT (by omega) (Int.le_refl _)))
  have el : l = L_w := by omega
  refine ⟨by rw [j3_w, el], fun b_w b1 b2 => ?_, fun k_w k1_w k2_w k3_w => ?_, fun b_w b1 b2 => ?_, ?_⟩
  · rw [j7_w b_w b1 (by omega), mb b_w b1, f1_w b_w b1 (by omega) (by omega)]
  · rw [j8_w k_w k2_w k3_w, mk_w 82 k_w (by omega), f2_w k_w k1_w]
  · rw [j9_w b_w b2, m2_w, f3_w b_w b1]
  · rw [j10_w, m2_w, f4_w]
