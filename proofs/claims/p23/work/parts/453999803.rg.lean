/-! ===== longest ways from one event, all numbers of tokens ===== -/
def MWx (P_w : Nat) (fr_w to_w : Nat → Nat) (tok : Nat → Bool) (dl : Nat → Int) (f_w k_w x : Nat) (v_w : Int) : Prop := SNx P_w fr_w to_w tok dl f_w k_w x v_w ∧ ∀ l, chw P_w fr_w to_w f_w l x → tkw tok l = k_w → wtw fr_w dl l ≤ v_w
theorem wtw.nn {P_w E_w : Nat} {fr_w to_w : Nat → Nat} {dl : Nat → Int} (hf : ∀ p_w, p_w < P_w → fr_w p_w < E_w ∧ to_w p_w < E_w) (hd_w : ∀ e, e < E_w → 0 ≤ dl e ∧ dl e ≤ 20) {a : Nat} : ∀ {l : List Nat} {b_w : Nat}, chw P_w fr_w to_w a l b_w → 0 ≤ wtw fr_w dl l ∧ wtw fr_w dl l ≤ 20 * l.length
  | [], _, _ => ⟨Int.le_refl _, Int.le_refl _⟩
  | p_w :: l, _, h_w => by
    have i_w := wtw.nn hf hd_w h_w.2.2
    have d_w := hd_w _ (hf p_w h_w.1).1
    show 0 ≤ dl (fr_w p_w) + wtw fr_w dl l ∧ dl (fr_w p_w) + wtw fr_w dl l ≤ 20 * ((l.length + 1 : Nat) : Int)
    omega
/-- behind the places without token: the first number of tokens -/
theorem MWx.z {P_w E_w f_w : Nat} {fr_w to_w : Nat → Nat} {tok : Nat → Bool} {dl : Nat → Int} {V : Nat → Int} (hf : ∀ p_w, p_w < P_w → fr_w p_w < E_w ∧ to_w p_w < E_w) (hd_w : ∀ e, e < E_w → 0 ≤ dl e ∧ dl e ≤ 20) (hs : ∀ x, x < E_w → SNx P_w fr_w to_w tok dl f_w 0 x (V x)) (h0 : 0 ≤ V f_w) (hc_w : ∀ q_w, q_w < P_w → tok q_w = false → V (fr_w q_w) ≠ -1 → V (fr_w q_w) + dl (fr_w q_w) ≤ V (to_w q_w)) : ∀ x, x < E_w → MWx P_w fr_w to_w tok dl f_w 0 x (V x) := fun x hx => by
  refine ⟨hs x hx, fun l => ?_⟩
  have key_w : ∀ (l : List Nat) (x : Nat), chw P_w fr_w to_w f_w l x → tkw tok l = 0 → wtw fr_w dl l ≤ V x := fun l => by
    induction l with
    | nil =>
      intro x h_w _
      have h_w : f_w = x := h_w
      rw [← h_w]
      exact h0
    | cons p_w l ih =>
      intro x h_w ht
      obtain ⟨h1, h2, h3⟩ := h_w
      have ht : (if tok p_w = true then 1 else 0) + tkw tok l = 0 := ht
      have tp : tok p_w = false := by
        refine eq_false_of_ne_true (fun q_w => ?_)
        rw [if_pos q_w] at ht
        omega
      have i_w := ih (fr_w p_w) h3 (by omega)
      have n := (wtw.nn hf hd_w h3).1
      have c_w := hc_w p_w h1 tp (by omega)
      rw [h2] at c_w
      show dl (fr_w p_w) + wtw fr_w dl l ≤ V x
      omega
  exact key_w l x
/-- the next number of tokens -/
theorem MWx.s {P_w E_w f_w k_w : Nat} {fr_w to_w : Nat → Nat} {tok : Nat → Bool} {dl : Nat → Int} {B_w U_w V : Nat → Int} (hf : ∀ p_w, p_w < P_w → fr_w p_w < E_w ∧ to_w p_w < E_w) (hd_w : ∀ e, e < E_w → 0 ≤ dl e ∧ dl e ≤ 20) (hB_w : ∀ x, x < E_w → MWx P_w fr_w to_w tok dl f_w k_w x (B_w x)) (hU : ∀ p_w, p_w < P_w → tok p_w = true → B_w (fr_w p_w) ≠ -1 → B_w (fr_w p_w) + dl (fr_w p_w) ≤ U_w (to_w p_w)) (hs : ∀ x, x < E_w → SNx P_w fr_w to_w tok dl f_w (k_w + 1) x (V x) ∧ U_w x ≤ V x) (hc_w : ∀ q_w, q_w < P_w → tok q_w = false → V (fr_w q_w) ≠ -1 → V (fr_w q_w) + dl (fr_w q_w) ≤ V (to_w q_w)) : ∀ x, x < E_w → MWx P_w fr_w to_w tok dl f_w (k_w + 1) x (V x) := fun x hx => by
  refine ⟨(hs x hx).1, fun l => ?_⟩
  have key_w : ∀ (l : List Nat) (x : Nat), chw P_w fr_w to_w f_w l x → tkw tok l = k_w + 1 → wtw fr_w dl l ≤ V x := fun l => by
    induction l with
    | nil =>
      intro x _ ht
      have ht : 0 = k_w + 1 := ht
      omega
    | cons p_w l ih =>
      intro x h_w ht
      obtain ⟨h1, h2, h3⟩ := h_w
      have ht : (if tok p_w = true then 1 else 0) + tkw tok l = k_w + 1 := ht
      have n := (wtw.nn hf hd_w h3).1
      show dl (fr_w p_w) + wtw fr_w dl l ≤ V x
      by_cases tp : tok p_w = true
      · rw [if_pos tp] at ht
        have i_w := (hB_w (fr_w p_w) (hf p_w h1).1).2 l h3 (by omega)
        have c_w := hU p_w h1 tp (by omega)
        have d_w := (hs (to_w p_w) (hf p_w h1).2).2
        rw [h2] at c_w d_w
        omega
      · rw [if_neg tp] at ht
        have i_w := ih (fr_w p_w) h3 (by omega)
        have c_w := hc_w p_w h1 (eq_false_of_ne_true tp) (by omega)
        rw [h2] at c_w
        omega
  exact key_w l x
/-- places with tokens, one after another: U_w are the ways so far, B_w those with one token less -/
def TKi (P_w E_w : Nat) (fr_w to_w : Nat → Nat) (tok : Nat → Bool) (dl : Nat → Int) (f_w k_w : Nat) (C_w : Int) (B_w U_w : Nat → Int) (p_w : Nat) : Prop := (∀ x, x < E_w → SNx P_w fr_w to_w tok dl f_w (k_w + 1) x (U_w x) ∧ U_w x ≤ C_w + 20) ∧ ∀ q_w, q_w < p_w → q_w < P_w → tok q_w = true → B_w (fr_w q_w) ≠ -1 → B_w (fr_w q_w) + dl (fr_w q_w) ≤ U_w (to_w q_w)
theorem TKi.st {P_w E_w f_w k_w p_w : Nat} {C_w : Int} {fr_w to_w : Nat → Nat} {tok : Nat → Bool} {dl : Nat → Int} {B_w U_w U' : Nat → Int} (hf : ∀ p_w, p_w < P_w → fr_w p_w < E_w ∧ to_w p_w < E_w) (hd_w : ∀ e, e < E_w → 0 ≤ dl e ∧ dl e ≤ 20) (hB_w : ∀ x, x < E_w → MWx P_w fr_w to_w tok dl f_w k_w x (B_w x) ∧ B_w x ≤ C_w) (hp : p_w < P_w) (T : TKi P_w E_w fr_w to_w tok dl f_w k_w C_w B_w U_w p_w) (h_w : (tok p_w = false ∧ U' = U_w) ∨ (tok p_w = true ∧ (∀ x, x ≠ to_w p_w → U' x = U_w x) ∧ U' (to_w p_w) = if B_w (fr_w p_w) = -1 then U_w (to_w p_w) else if U_w (to_w p_w) < B_w (fr_w p_w) + dl (fr_w p_w) then B_w (fr_w p_w) + dl (fr_w p_w) else U_w (to_w p_w))) : TKi P_w E_w fr_w to_w tok dl f_w k_w C_w B_w U' (p_w + 1) := by
  obtain ⟨t1_w, t2_w⟩ := T
  rcases h_w with ⟨h1, h2⟩ | ⟨h1, h3, h4⟩
  · rw [h2]
    refine ⟨t1_w, fun q_w q1_w q2_w q3_w => ?_⟩
    by_cases z_w : q_w = p_w
    · rw [z_w, h1] at q3_w
      cases q3_w
    · exact t2_w q_w (by omega) q2_w q3_w
  · have up_w : ∀ x, U_w x ≤ U' x := fun x => by
      by_cases z_w : x = to_w p_w
      · rw [z_w, h4]
        split
        · exact Int.le_refl _
        · split <;> omega
      · rw [h3 x z_w]
        exact Int.le_refl _
    refine ⟨fun x hx => ?_, fun q_w q1_w q2_w q3_w q4_w => ?_⟩
    · by_cases z_w : x = to_w p_w
      · rw [z_w, h4]
        obtain ⟨u1_w, u2_w⟩ := t1_w _ (hf p_w hp).2
        by_cases c1_w : B_w (fr_w p_w) = -1
        · rw [if_pos c1_w]
          exact ⟨u1_w, u2_w⟩
        · rw [if_neg c1_w]
          by_cases c2_w : U_w (to_w p_w) < B_w (fr_w p_w) + dl (fr_w p_w)
          · rw [if_pos c2_w]
            obtain ⟨⟨b1, -⟩, b3⟩ := hB_w _ (hf p_w hp).1
            have dp := hd_w _ (hf p_w hp).1
            refine ⟨?_, by omega⟩
            rcases b1 with w_w | ⟨w1_w, l, w2_w, w3_w, w4_w⟩
            · exact absurd w_w c1_w
            · refine Or.inr ⟨by omega, p_w :: l, ⟨hp, rfl, w2_w⟩, ?_, ?_⟩
              · show (if tok p_w = true then 1 else 0) + tkw tok l = k_w + 1
                rw [if_pos h1, w3_w]
                omega
              · show dl (fr_w p_w) + wtw fr_w dl l = _
                rw [w4_w]
                omega
          · rw [if_neg c2_w]
            exact ⟨u1_w, u2_w⟩
      · rw [h3 x z_w]
        exact t1_w x hx
    · by_cases z_w : q_w = p_w
      · rw [z_w] at q4_w ⊢
        rw [h4, if_neg q4_w]
        split <;> omega
      · exact Int.le_trans (t2_w q_w (by omega) q2_w q3_w q4_w) (up_w _)
/-- what stays while ways are looked for -/
def WFm (m0_w m_w : dc_M) : Prop := (∀ y_w, y_w ≠ 34 → y_w ≠ 35 → y_w ≠ 36 → m_w.1 y_w = m0_w.1 y_w) ∧ m_w.2.2.2 = m0_w.2.2.2 ∧ RFw m_w
theorem fcw_st {a E_w P_w f_w k_w : Nat} {fr_w to_w od : Nat → Nat} {m_w zm : dc_M} {r_w : (Int32 × dc_M) ⊕ dc_M} (ha_w : a = 41 ∨ a = 52) (N : NTw a E_w P_w fr_w to_w m_w) (G : GDw a E_w P_w fr_w to_w od m_w) (l34 : (m_w.2.2.2 34).2 = 16) (l35 : (m_w.2.2.2 35).2 = 16) (hf1 : f_w < E_w) (hk : k_w < E_w) (F_w : WFm m_w zm) (hB_w : ∀ x, x < E_w → MWx P_w fr_w to_w (fun p_w => b32 (m_w.1 a 13) p_w) (fun e => (m_w.1 (a + 8) e).toInt) f_w k_w x (zm.1 (zm.2.2.1 30 8) x).toInt ∧ (zm.1 (zm.2.2.1 30 8) x).toInt ≤ 340 * (k_w + 1)) (h_w : d_X5_findClosedWays_l22b 30 a (Int32.ofNat f_w) (Int32.ofNat (k_w + 1)) zm = some r_w) : ∃ zm', r_w = .inl (Int32.ofNat (k_w + 2), zm') ∧ WFm m_w zm' ∧ (∀ x, x < E_w → MWx P_w fr_w to_w (fun p_w => b32 (m_w.1 a 13) p_w) (fun e => (m_w.1 (a + 8) e).toInt) f_w (k_w + 1) x (zm'.1 (zm'.2.2.1 30 8) x).toInt ∧ (zm'.1 (zm'.2.2.1 30 8) x).toInt ≤ 340 * (k_w + 2)) ∧ (zm'.1 36 (17 * f_w + (k_w + 1)) = zm'.1 (zm'.2.2.1 30 8) f_w) ∧ ∀ j_w, j_w ≠ 17 * f_w + (k_w + 1) → zm'.1 36 j_w = zm.1 36 j_w := by
  have E16 := N.1.2
  have P20 := N.2.1.2
  have hf : ∀ p_w, p_w < P_w → fr_w p_w < E_w ∧ to_w p_w < E_w := fun p_w hp => ⟨(N.2.2.1 p_w hp).1, (N.2.2.1 p_w hp).2.1⟩
  have hd_w := N.2.2.2.2
  obtain ⟨F1_w, F2, F3⟩ := F_w
  unfold d_X5_findClosedWays_l22b at h_w
  rw [F1_w a (by omega) (by omega) (by omega), N.1.1, mk_i (by omega), if_neg (show ¬ (E_w : Int) < ((k_w + 1 : Nat) : Int) by omega), dc_let_eq] at h_w
  unfold d_X5_turnWays at h_w
  generalize hT : dc_wr (dc_wr zm 30 9 (zm.2.2.1 30 8)) 30 8 (zm.2.2.1 30 9) = T at h_w
  have t1_w : T.1 = zm.1 := by rw [← hT]; rfl
  have t3_w : T.2.2.2 = zm.2.2.2 := by rw [← hT]; rfl
  have t8 : T.2.2.1 30 8 = zm.2.2.1 30 9 := by rw [← hT]; rfl
  have t9 : T.2.2.1 30 9 = zm.2.2.1 30 8 := by rw [← hT]; rfl
  obtain ⟨w_w, hw⟩ : ∃ w_w, zm.2.2.1 30 9 = w_w := ⟨_, rfl⟩
  obtain ⟨b_w, hb_w⟩ : ∃ b_w, zm.2.2.1 30 8 = b_w := ⟨_, rfl⟩
  have wb : (w_w = 34 ∧ b_w = 35) ∨ (w_w = 35 ∧ b_w = 34) := by
    rcases F3 with ⟨y1, y2⟩ | ⟨y1, y2⟩ <;> omega
  rw [t8, hw] at h_w
  rw [hb_w] at hB_w
  cases hq : d_J7_fill_53178 w_w (-1) T with
  | none => rw [hq] at h_w; cases h_w
  | some q_w =>
    rw [hq, Option.bind_some] at h_w
    obtain ⟨q1_w, q2_w, q3_w⟩ := fi_run (n := 16) (by rw [t3_w, F2]; rcases wb with ⟨y_w, -⟩ | ⟨y_w, -⟩ <;> rw [y_w] <;> assumption) (by decide) hq
    have qw : q_w.2.2.1 30 8 = w_w := by rw [q1_w, t8]; exact hw
    have qb : q_w.2.2.1 30 9 = b_w := by rw [q1_w, t9]; exact hb_w
    have qc : ∀ y_w, y_w ≠ w_w → q_w.1 y_w = zm.1 y_w := fun y_w hy => by rw [q2_w y_w hy, t1_w]
    have qm : ∀ y_w, y_w ≠ 34 → y_w ≠ 35 → y_w ≠ 36 → q_w.1 y_w = m_w.1 y_w := fun y_w h1 h2 h3 => by rw [qc y_w (by omega)]; exact F1_w y_w h1 h2 h3
    unfold d_X5_findClosedWays_l45 at h_w
    have step_w : ∀ (p_w : Nat) (ym : dc_M) (r_w : (Int32 × dc_M) ⊕ ((Int32 × dc_M) ⊕ dc_M)), p_w < P_w → ym.2 = q_w.2 → (∀ y_w, y_w ≠ w_w → ym.1 y_w = q_w.1 y_w) → TKi P_w E_w fr_w to_w (fun p_w => b32 (m_w.1 a 13) p_w) (fun e => (m_w.1 (a + 8) e).toInt) f_w k_w (340 * (k_w + 1)) (fun x => (zm.1 b_w x).toInt) (fun x => (ym.1 w_w x).toInt) p_w → d_X5_findClosedWays_l45b 30 a (Int32.ofNat f_w) (Int32.ofNat (k_w + 1)) (Int32.ofNat p_w) ym = some r_w → ∃ ym', r_w = .inl (Int32.ofNat (p_w + 1), ym') ∧ ym'.2 = q_w.2 ∧ (∀ y_w, y_w ≠ w_w → ym'.1 y_w = q_w.1 y_w) ∧ TKi P_w E_w fr_w to_w (fun p_w => b32 (m_w.1 a 13) p_w) (fun e => (m_w.1 (a + 8) e).toInt) f_w k_w (340 * (k_w + 1)) (fun x => (zm.1 b_w x).toInt) (fun x => (ym'.1 w_w x).toInt) (p_w + 1) := fun p_w ym r_w hp y2 y1 J hr => by
      have pt : (Int32.ofNat p_w).toInt = p_w := mk_i (by omega)
      have pn : (Int32.ofNat p_w).toNatClampNeg = p_w := on_n (by omega)
      have p1_w : Int32.ofNat p_w + 1 = Int32.ofNat (p_w + 1) := on_1 (by omega)
      have ya : ym.1 a = m_w.1 a := by rw [y1 a (by omega)]; exact qm a (by omega) (by omega) (by omega)
      have t_w := b32_t (x := m_w.1 a 13) (e := Int32.ofNat p_w) ⟨by omega, by omega⟩
      rw [pn] at t_w
      unfold d_X5_findClosedWays_l45b at hr
      rw [ya, N.2.1.1, pt, if_neg (show ¬ (P_w : Int) ≤ p_w by omega), p1_w] at hr
      by_cases c3_w : b32 (m_w.1 a 13) p_w = true
      · rw [if_neg (fun z_w => by have := t_w.mp z_w; rw [c3_w] at this; cases this), dc_let_eq] at hr
        have yb : ym.2.2.1 30 9 = b_w := by rw [y2]; exact qb
        have yw : ym.2.2.1 30 8 = w_w := by rw [y2]; exact qw
        have yB_w : ym.1 b_w = zm.1 b_w := by rw [y1 b_w (by omega), qc b_w (by omega)]
        have y8 : ym.1 (a + 8) = m_w.1 (a + 8) := by rw [y1 _ (by omega)]; exact qm _ (by omega) (by omega) (by omega)
        have Bf := hB_w (fr_w p_w) (hf p_w hp).1
        have bl : -1 ≤ (zm.1 b_w (fr_w p_w)).toInt := by
          rcases Bf.1.1 with v_w | v_w
          · omega
          · omega
        rw [yb] at hr
        obtain ⟨l1, l2, l3⟩ := len_w (a := a) (s := b_w) (by rw [y1 31 (by omega), qm 31 (by decide) (by decide) (by decide)]; exact (G.1 p_w hp).1) (by rw [y1 32 (by omega), qm 32 (by decide) (by decide) (by decide)]; exact (G.1 p_w hp).2) (by omega) (by have := (hf p_w hp).1; omega) (by have := (hf p_w hp).2; omega) yw (by rw [yB_w]; exact ⟨bl, by omega⟩) (by rw [y8]; exact hd_w _ (hf p_w hp).1)
        refine ⟨_, (Option.some.inj hr).symm, l1.trans y2, fun y_w hy => ?_, ?_⟩
        · rw [← y1 y_w hy]
          exact funext (fun k_w => l2 y_w k_w (fun q_w => hy q_w.1))
        · rw [y8, yB_w] at l3
          exact J.st hf hd_w hB_w hp (Or.inr ⟨c3_w, fun x hx => by show (_ : Int32).toInt = (_ : Int32).toInt; rw [l2 w_w x (fun q_w => hx q_w.2)], l3⟩)
      · rw [if_pos (t_w.mpr (eq_false_of_ne_true c3_w))] at hr
        exact ⟨ym, (Option.some.inj hr).symm, y2, y1, J.st hf hd_w hB_w hp (Or.inl ⟨eq_false_of_ne_true c3_w, rfl⟩)⟩
    refine dc_lp_inv (s := ((0 : Int32), q_w)) (fun s : Int32 × dc_M => ∃ p_w : Nat, p_w ≤ P_w ∧ s.1 = Int32.ofNat p_w ∧ s.2.2 = q_w.2 ∧ (∀ y_w, y_w ≠ w_w → s.2.1 y_w = q_w.1 y_w) ∧ TKi P_w E_w fr_w to_w (fun p_w => b32 (m_w.1 a 13) p_w) (fun e => (m_w.1 (a + 8) e).toInt) f_w k_w (340 * (k_w + 1)) (fun x => (zm.1 b_w x).toInt) (fun x => (s.2.1 w_w x).toInt) p_w) (fun r_w : (Int32 × dc_M) ⊕ dc_M => ∃ zm', r_w = .inl (Int32.ofNat (k_w + 2), zm') ∧ WFm m_w zm' ∧ (∀ x, x < E_w → MWx P_w fr_w to_w (fun p_w => b32 (m_w.1 a 13) p_w) (fun e => (m_w.1 (a + 8) e).toInt) f_w (k_w + 1) x (zm'.1 (zm'.2.2.1 30 8) x).toInt ∧ (zm'.1 (zm'.2.2.1 30 8) x).toInt ≤ 340 * (k_w + 2)) ∧ (zm'.1 36 (17 * f_w + (k_w + 1)) = zm'.1 (zm'.2.2.1 30 8) f_w) ∧ ∀ j_w, j_w ≠ 17 * f_w + (k_w + 1) → zm'.1 36 j_w = zm.1 36 j_w) (fun s s' hI hs => ?_) (fun s u_w hI hs => ?_) ⟨0, Nat.zero_le _, rfl, rfl, fun _ _ => rfl, fun x hx => ?_, fun q_w hq => absurd hq (Nat.not_lt_zero q_w)⟩ h_w
    · obtain ⟨p_w, i1_w, i2_w, i3_w, i4_w, i5_w⟩ := hI
      obtain ⟨y_w, ym⟩ := s
      have i2_w : y_w = Int32.ofNat p_w := i2_w
      have i3_w : ym.2 = q_w.2 := i3_w
      have i4_w : ∀ y_w, y_w ≠ w_w → ym.1 y_w = q_w.1 y_w := i4_w
      have hs : d_X5_findClosedWays_l45b 30 a (Int32.ofNat f_w) (Int32.ofNat (k_w + 1)) y_w ym = some (.inl s') := hs
      rw [i2_w] at hs
      by_cases c_w : p_w < P_w
      · obtain ⟨ym', r1_w, r2⟩ := step_w p_w ym _ c_w i3_w i4_w i5_w hs
        have r1_w := Sum.inl.inj r1_w
        rw [r1_w]
        exact ⟨p_w + 1, by omega, rfl, r2⟩
      · unfold d_X5_findClosedWays_l45b at hs
        rw [i4_w a (by omega), qm a (by omega) (by omega) (by omega), N.2.1.1, mk_i (by omega), if_pos (show (P_w : Int) ≤ p_w by omega)] at hs
        generalize d_X5_findClosedWays_b83 30 a (Int32.ofNat f_w) (Int32.ofNat (k_w + 1)) ym = o at hs
        cases o with
        | none => cases hs
        | some o => cases hs
    · obtain ⟨p_w, i1_w, i2_w, i3_w, i4_w, i5_w⟩ := hI
      obtain ⟨y_w, ym⟩ := s
      have i2_w : y_w = Int32.ofNat p_w := i2_w
      have i3_w : ym.2 = q_w.2 := i3_w
      have i4_w : ∀ y_w, y_w ≠ w_w → ym.1 y_w = q_w.1 y_w := i4_w
      have i5_w : TKi P_w E_w fr_w to_w (fun p_w => b32 (m_w.1 a 13) p_w) (fun e => (m_w.1 (a + 8) e).toInt) f_w k_w (340 * (k_w + 1)) (fun x => (zm.1 b_w x).toInt) (fun x => (ym.1 w_w x).toInt) p_w := i5_w
      have hs : d_X5_findClosedWays_l45b 30 a (Int32.ofNat f_w) (Int32.ofNat (k_w + 1)) y_w ym = some (.inr u_w) := hs
      rw [i2_w] at hs
      by_cases c_w : p_w < P_w
      · obtain ⟨ym', r1_w, -⟩ := step_w p_w ym _ c_w i3_w i4_w i5_w hs
        cases r1_w
      · unfold d_X5_findClosedWays_l45b at hs
        rw [i4_w a (by omega), qm a (by omega) (by omega) (by omega), N.2.1.1, mk_i (by omega), if_pos (show (P_w : Int) ≤ p_w by omega)] at hs
        unfold d_X5_findClosedWays_b83 at hs
        have pe : p_w = P_w := by omega
        rw [pe] at i5_w
        have ymm : ∀ y_w, y_w ≠ 34 → y_w ≠ 35 → y_w ≠ 36 → ym.1 y_w = m_w.1 y_w := fun y_w h1 h2 h3 => by rw [i4_w y_w (by omega)]; exact qm y_w h1 h2 h3
        cases hg : d_X5_goOnWithoutToken 30 a ym with
        | none => rw [hg] at hs; cases hs
        | some e =>
          rw [hg] at hs
          have hs := Sum.inr.inj (Option.some.inj hs)
          rw [← hs]
          have ix : (Int32.ofNat f_w * 17 + Int32.ofNat (k_w + 1)).toNatClampNeg = 17 * f_w + (k_w + 1) := by
            have a1_w : (Int32.ofNat f_w * 17).toInt = 17 * (f_w : Int) := by rw [Int32.toInt_mul, mk_i (by omega), show (17 : Int32).toInt = 17 from rfl, sx_bm (by omega) (by omega)]; omega
            have a2 : (Int32.ofNat f_w * 17 + Int32.ofNat (k_w + 1)).toInt = 17 * (f_w : Int) + (k_w + 1) := by rw [Int32.toInt_add, a1_w, mk_i (by omega), sx_bm (by omega) (by omega)]; omega
            show (Int32.ofNat f_w * 17 + Int32.ofNat (k_w + 1)).toInt.toNat = _
            rw [a2]
            omega
          have yw : ym.2.2.1 30 8 = w_w := by rw [i3_w]; exact qw
          have ya : ym.1 a = m_w.1 a := ymm a (by omega) (by omega) (by omega)
          have y8 : ym.1 (a + 8) = m_w.1 (a + 8) := ymm _ (by omega) (by omega) (by omega)
          obtain ⟨e1_w, e2_w, e3_w, e4_w⟩ := @go_w a E_w P_w (340 * (k_w + 1) + 20) f_w (k_w + 1) fr_w to_w od ym e w_w ha_w (N.eqw (fun y_w h1 h2 => ymm y_w (by omega) (by omega) (by omega))) (G.eqw (by rw [ymm 30 (by decide) (by decide) (by decide)]) (ymm 31 (by decide) (by decide) (by decide)) (ymm 32 (by decide) (by decide) (by decide)) (ymm 33 (by decide) (by decide) (by decide)) (by rw [ya])) yw (by omega) (by omega) (fun x hx => by rw [ya, y8]; exact ⟨(i5_w.1 x hx).1, Int.le_trans (i5_w.1 x hx).2 (by omega)⟩) hg
          rw [ya, y8] at e3_w e4_w
          have ew : e.2.2.1 30 8 = w_w := by rw [e1_w]; exact yw
          have M_w := MWx.s (V := fun x => (e.1 w_w x).toInt) hf hd_w (fun x hx => (hB_w x hx).1) (fun p_w p1_w p2_w p3_w => i5_w.2 p_w p1_w p1_w p2_w p3_w) (fun x hx => ⟨(e3_w x hx).1, (e3_w x hx).2.1⟩) e4_w
          have fn_w : (Int32.ofNat f_w).toNatClampNeg = f_w := on_n (by omega)
          refine ⟨_, by rw [on_1 (by omega)], ⟨fun y_w h1 h2 h3 => ?_, ?_, ?_⟩, fun x hx => ?_, ?_, fun j_w hj => ?_⟩
          · rw [← ymm y_w h1 h2 h3, ← e2_w y_w (by omega)]
            exact funext (fun k_w => wi_k (by omega))
          · show e.2.2.2 = _
            rw [e1_w, i3_w, q1_w, t3_w]
            exact F2
          · show (e.2.2.1 30 8 = 34 ∧ e.2.2.1 30 9 = 35) ∨ (e.2.2.1 30 8 = 35 ∧ e.2.2.1 30 9 = 34)
            rw [ew, e1_w, i3_w, qb]
            omega
          · show MWx P_w fr_w to_w (fun p_w => b32 (m_w.1 a 13) p_w) (fun e => (m_w.1 (a + 8) e).toInt) f_w (k_w + 1) x ((dc_wi e 36 (Int32.ofNat f_w * 17 + Int32.ofNat (k_w + 1)).toNatClampNeg (e.1 (e.2.2.1 30 8) (Int32.ofNat f_w).toNatClampNeg)).1 (e.2.2.1 30 8) x).toInt ∧ ((dc_wi e 36 (Int32.ofNat f_w * 17 + Int32.ofNat (k_w + 1)).toNatClampNeg (e.1 (e.2.2.1 30 8) (Int32.ofNat f_w).toNatClampNeg)).1 (e.2.2.1 30 8) x).toInt ≤ _
            rw [ew, wi_k (by omega)]
            exact ⟨M_w x hx, Int.le_trans (e3_w x hx).2.2 (by omega)⟩
          · show (dc_wi e 36 (Int32.ofNat f_w * 17 + Int32.ofNat (k_w + 1)).toNatClampNeg (e.1 (e.2.2.1 30 8) (Int32.ofNat f_w).toNatClampNeg)).1 36 (17 * f_w + (k_w + 1)) = (dc_wi e 36 (Int32.ofNat f_w * 17 + Int32.ofNat (k_w + 1)).toNatClampNeg (e.1 (e.2.2.1 30 8) (Int32.ofNat f_w).toNatClampNeg)).1 (e.2.2.1 30 8) f_w
            rw [ix, ew, fn_w, wi_s, wi_k (by omega)]
          · show (dc_wi e 36 (Int32.ofNat f_w * 17 + Int32.ofNat (k_w + 1)).toNatClampNeg (e.1 (e.2.2.1 30 8) (Int32.ofNat f_w).toNatClampNeg)).1 36 j_w = _
            rw [ix, wi_k (by omega), e2_w 36 (by omega), i4_w 36 (by omega), qc 36 (by omega)]
    · show SNx P_w fr_w to_w (fun p_w => b32 (m_w.1 a 13) p_w) (fun e => (m_w.1 (a + 8) e).toInt) f_w (k_w + 1) x (q_w.1 w_w x).toInt ∧ (q_w.1 w_w x).toInt ≤ 340 * (k_w + 1) + 20
      rw [q3_w x (by omega)]
      exact ⟨Or.inl rfl, by rw [show (-1 : Int32).toInt = -1 from rfl]; omega⟩
