/-! ===== when events end: the class ===== -/
/-- the latest of what is waited for, or -1 -/
def MXw (inb_w : Nat → Prop) (th : Nat → Int) (P_w : Nat) (b_w : Int) : Prop := (b_w = -1 ∧ ∃ p_w, p_w < P_w ∧ inb_w p_w ∧ th p_w = -1) ∨ (0 ≤ b_w ∧ (∀ p_w, p_w < P_w → inb_w p_w → th p_w ≠ -1 ∧ th p_w ≤ b_w) ∧ (b_w = 0 ∨ ∃ p_w, p_w < P_w ∧ inb_w p_w ∧ th p_w = b_w))
theorem MXw.uq {inb_w : Nat → Prop} {th : Nat → Int} {P_w : Nat} {b_w b' : Int} (h_w : MXw inb_w th P_w b_w) (h' : MXw inb_w th P_w b') : b_w = b' := by
  rcases h_w with ⟨e, p_w, p1_w, p2_w, p3⟩ | ⟨g1, g2, g3_w⟩
  · rcases h' with ⟨e', -⟩ | ⟨-, g2', -⟩
    · omega
    · exact absurd p3 (g2' p_w p1_w p2_w).1
  · rcases h' with ⟨e', p_w, p1_w, p2_w, p3⟩ | ⟨g1', g2', g3'⟩
    · exact absurd p3 (g2 p_w p1_w p2_w).1
    · have a1_w : b_w ≤ b' := by
        rcases g3_w with z_w | ⟨p_w, p1_w, p2_w, p3⟩
        · omega
        · have := (g2' p_w p1_w p2_w).2
          omega
      have a2 : b' ≤ b_w := by
        rcases g3' with z_w | ⟨p_w, p1_w, p2_w, p3⟩
        · omega
        · have := (g2 p_w p1_w p2_w).2
          omega
      omega
theorem MXw.cg {inb_w : Nat → Prop} {th th' : Nat → Int} {P_w : Nat} {b_w : Int} (h_w : MXw inb_w th P_w b_w) (e : ∀ p_w, p_w < P_w → inb_w p_w → th p_w = th' p_w) : MXw inb_w th' P_w b_w := by
  rcases h_w with ⟨g0, p_w, p1_w, p2_w, p3⟩ | ⟨g1, g2, g3_w⟩
  · exact Or.inl ⟨g0, p_w, p1_w, p2_w, (e p_w p1_w p2_w) ▸ p3⟩
  · refine Or.inr ⟨g1, fun p_w p1_w p2_w => (e p_w p1_w p2_w) ▸ g2 p_w p1_w p2_w, ?_⟩
    rcases g3_w with z_w | ⟨p_w, p1_w, p2_w, p3⟩
    · exact Or.inl z_w
    · exact Or.inr ⟨p_w, p1_w, p2_w, (e p_w p1_w p2_w) ▸ p3⟩
theorem MXw.zw {inb_w : Nat → Prop} {th : Nat → Int} : MXw inb_w th 0 0 := Or.inr ⟨Int.le_refl _, fun p_w hp => absurd hp (Nat.not_lt_zero p_w), Or.inl rfl⟩
theorem MXw.s0 {inb_w : Nat → Prop} {th : Nat → Int} {p_w : Nat} {b_w : Int} (h_w : MXw inb_w th p_w b_w) (n_w : ¬ inb_w p_w) : MXw inb_w th (p_w + 1) b_w := by
  rcases h_w with ⟨e, q_w, p1_w, p2_w, p3⟩ | ⟨g1, g2, g3_w⟩
  · exact Or.inl ⟨e, q_w, by omega, p2_w, p3⟩
  · refine Or.inr ⟨g1, fun q_w q1_w q2_w => ?_, ?_⟩
    · by_cases z_w : q_w = p_w
      · rw [z_w] at q2_w
        exact absurd q2_w n_w
      · exact g2 q_w (by omega) q2_w
    · rcases g3_w with z_w | ⟨q_w, q1_w, q2_w⟩
      · exact Or.inl z_w
      · exact Or.inr ⟨q_w, by omega, q2_w⟩
theorem MXw.s1 {inb_w : Nat → Prop} {th : Nat → Int} {p_w : Nat} (n_w : inb_w p_w) (t_w : th p_w = -1) : MXw inb_w th (p_w + 1) (-1) := Or.inl ⟨rfl, p_w, Nat.lt_succ_self p_w, n_w, t_w⟩
theorem MXw.s2 {inb_w : Nat → Prop} {th : Nat → Int} {p_w : Nat} {b_w : Int} (h_w : MXw inb_w th p_w b_w) (hb_w : b_w ≠ -1) (n_w : inb_w p_w) (t_w : th p_w ≠ -1) : MXw inb_w th (p_w + 1) (if b_w < th p_w then th p_w else b_w) := by
  rcases h_w with ⟨e, -⟩ | ⟨g1, g2, g3_w⟩
  · exact absurd e hb_w
  · by_cases c_w : b_w < th p_w
    · rw [if_pos c_w]
      refine Or.inr ⟨by omega, fun q_w q1_w q2_w => ?_, Or.inr ⟨p_w, Nat.lt_succ_self p_w, n_w, rfl⟩⟩
      by_cases z_w : q_w = p_w
      · rw [z_w]
        exact ⟨t_w, Int.le_refl _⟩
      · have := g2 q_w (by omega) q2_w
        exact ⟨this.1, by omega⟩
    · rw [if_neg c_w]
      refine Or.inr ⟨g1, fun q_w q1_w q2_w => ?_, ?_⟩
      · by_cases z_w : q_w = p_w
        · rw [z_w]
          exact ⟨t_w, by omega⟩
        · exact g2 q_w (by omega) q2_w
      · rcases g3_w with z_w | ⟨q_w, q1_w, q2_w⟩
        · exact Or.inl z_w
        · exact Or.inr ⟨q_w, by omega, q2_w⟩
theorem MXw.mw {inb_w : Nat → Prop} {th : Nat → Int} {p_w P_w : Nat} (h_w : MXw inb_w th p_w (-1)) (hp : p_w ≤ P_w) : MXw inb_w th P_w (-1) := by
  rcases h_w with ⟨e, q_w, p1_w, p2_w⟩ | ⟨g1, -⟩
  · exact Or.inl ⟨e, q_w, by omega, p2_w⟩
  · omega
def TKw (to_w : Nat → Nat) (P_w e : Nat) : Prop := ∃ p_w, p_w < P_w ∧ to_w p_w = e
/-- each place is fed and taken from once -/
def NTw (a_w E_w P_w : Nat) (fr_w to_w : Nat → Nat) (c_w : dc_M) : Prop := ((c_w.1 a_w 1).toInt = E_w ∧ E_w ≤ 16) ∧ ((c_w.1 a_w 2).toInt = P_w ∧ P_w ≤ 20) ∧ (∀ p_w, p_w < P_w → fr_w p_w < E_w ∧ to_w p_w < E_w ∧ ∀ k_w, k_w < E_w → (b32 (c_w.1 (a_w + 6) k_w) p_w = true ↔ to_w p_w = k_w) ∧ (b32 (c_w.1 (a_w + 7) k_w) p_w = true ↔ fr_w p_w = k_w)) ∧ (∀ k_w, k_w < E_w → ∀ b_w, b_w < 32 → P_w ≤ b_w → b32 (c_w.1 (a_w + 6) k_w) b_w = false ∧ b32 (c_w.1 (a_w + 7) k_w) b_w = false) ∧ ∀ k_w, k_w < E_w → 0 ≤ (c_w.1 (a_w + 8) k_w).toInt ∧ (c_w.1 (a_w + 8) k_w).toInt ≤ 20
theorem NTw.eqw {a_w E_w P_w : Nat} {fr_w to_w : Nat → Nat} {c_w c' : dc_M} (N_w : NTw a_w E_w P_w fr_w to_w c_w) (e : ∀ b_w, a_w ≤ b_w → b_w ≤ a_w + 10 → c'.1 b_w = c_w.1 b_w) : NTw a_w E_w P_w fr_w to_w c' := by
  unfold NTw
  rw [e a_w (by omega) (by omega), e (a_w + 6) (by omega) (by omega), e (a_w + 7) (by omega) (by omega), e (a_w + 8) (by omega) (by omega)]
  exact N_w
theorem tk0_w {a_w E_w P_w e : Nat} {fr_w to_w : Nat → Nat} {c_w : dc_M} (N_w : NTw a_w E_w P_w fr_w to_w c_w) (he : e < E_w) : (c_w.1 (a_w + 6) e).toInt = 0 ↔ ¬ TKw to_w P_w e := by
  obtain ⟨-, -, n3_w, n4_w, -⟩ := N_w
  constructor
  · intro z_w ⟨p_w, p1_w, p2_w⟩
    have z_w : c_w.1 (a_w + 6) e = 0 := Int32.toInt_inj.mp z_w
    have b_w := ((n3_w p_w p1_w).2.2 e he).1.mpr p2_w
    rw [z_w, b32_0] at b_w
    cases b_w
  · intro n_w
    have z_w : c_w.1 (a_w + 6) e = 0 := b32_ext (fun k_w hk => by
      rw [b32_0]
      by_cases q_w : k_w < P_w
      · exact eq_false_of_ne_true (fun b_w => n_w ⟨k_w, q_w, ((n3_w k_w q_w).2.2 e he).1.mp b_w⟩)
      · exact (n4_w e he k_w hk (by omega)).1)
    rw [z_w]
    rfl
theorem bg_w {a_w E_w P_w e : Nat} {fr_w to_w : Nat → Nat} {c_w : dc_M} {q_w : Int32} (N_w : NTw a_w E_w P_w fr_w to_w c_w) (g31 : ∀ p_w, p_w < P_w → c_w.1 31 p_w = Int32.ofNat (fr_w p_w)) (he : e < E_w) (h_w : d_X5_beginOf 30 a_w (Int32.ofNat e) c_w = some q_w) : (¬ TKw to_w P_w e ∧ q_w = -1) ∨ (TKw to_w P_w e ∧ MXw (fun p_w => to_w p_w = e) (fun p_w => if b32 (c_w.1 a_w 13) p_w = true then (c_w.1 (c_w.2.2.1 30 9) (fr_w p_w)).toInt else (c_w.1 (c_w.2.2.1 30 8) (fr_w p_w)).toInt) P_w q_w.toInt) := by
  have z_w := tk0_w N_w he
  obtain ⟨n1_w, n2_w, n3_w, n4_w, -⟩ := N_w
  unfold d_X5_beginOf at h_w
  have en : (Int32.ofNat e).toNatClampNeg = e := on_n (by omega)
  rw [en] at h_w
  by_cases c0_w : (c_w.1 (a_w + 6) e).toInt = 0
  · rw [if_neg (fun r_w => r_w c0_w)] at h_w
    refine Or.inl ⟨z_w.mp c0_w, ?_⟩
    unfold d_X5_beginOf_l18 at h_w
    refine dc_lp_inv (s := ((-1 : Int32), (0 : Int32))) (fun s : Int32 × Int32 => s.1 = -1) (fun q_w : Int32 => q_w = -1) (fun s s' hI hs => ?_) (fun s u_w hI hs => ?_) rfl h_w
    · have hI : s.1 = -1 := hI
      have hs : d_X5_beginOf_l18b 30 a_w (Int32.ofNat e) s.1 s.2 c_w = some (.inl s') := hs
      unfold d_X5_beginOf_l18b at hs
      rw [hI] at hs
      by_cases c1_w : (c_w.1 a_w 2).toInt ≤ s.2.toInt
      · rw [if_pos c1_w] at hs; cases hs
      · rw [if_neg c1_w, if_pos (show (-1 : Int32).toInt = -1 from rfl)] at hs; cases hs
    · have hI : s.1 = -1 := hI
      have hs : d_X5_beginOf_l18b 30 a_w (Int32.ofNat e) s.1 s.2 c_w = some (.inr u_w) := hs
      unfold d_X5_beginOf_l18b at hs
      rw [hI] at hs
      by_cases c1_w : (c_w.1 a_w 2).toInt ≤ s.2.toInt
      · rw [if_pos c1_w] at hs; exact (Sum.inr.inj (Option.some.inj hs)).symm
      · rw [if_neg c1_w, if_pos (show (-1 : Int32).toInt = -1 from rfl)] at hs; exact (Sum.inr.inj (Option.some.inj hs)).symm
  · rw [if_pos c0_w] at h_w
    refine Or.inr ⟨Classical.byContradiction (fun r_w => c0_w (z_w.mpr r_w)), ?_⟩
    unfold d_X5_beginOf_l18 at h_w
    -- one place
    have step_w : ∀ (p_w : Nat) (x : Int32) (r_w : (Int32 × Int32) ⊕ Int32), p_w < P_w → x.toInt ≠ -1 → MXw (fun p_w => to_w p_w = e) (fun p_w => if b32 (c_w.1 a_w 13) p_w = true then (c_w.1 (c_w.2.2.1 30 9) (fr_w p_w)).toInt else (c_w.1 (c_w.2.2.1 30 8) (fr_w p_w)).toInt) p_w x.toInt → d_X5_beginOf_l18b 30 a_w (Int32.ofNat e) x (Int32.ofNat p_w) c_w = some r_w → ∃ x' : Int32, r_w = .inl (x', Int32.ofNat (p_w + 1)) ∧ MXw (fun p_w => to_w p_w = e) (fun p_w => if b32 (c_w.1 a_w 13) p_w = true then (c_w.1 (c_w.2.2.1 30 9) (fr_w p_w)).toInt else (c_w.1 (c_w.2.2.1 30 8) (fr_w p_w)).toInt) (p_w + 1) x'.toInt := fun p_w x r_w hp hx M hz => by
      have pt : (Int32.ofNat p_w).toInt = p_w := mk_i (by omega)
      have pn : (Int32.ofNat p_w).toNatClampNeg = p_w := on_n (by omega)
      have p1_w : Int32.ofNat p_w + 1 = Int32.ofNat (p_w + 1) := on_1 (by omega)
      have fn_w : (Int32.ofNat (fr_w p_w)).toNatClampNeg = fr_w p_w := on_n (by have := (n3_w p_w hp).1; omega)
      have t1_w := b32_t (x := c_w.1 (a_w + 6) e) (e := Int32.ofNat p_w) ⟨by omega, by omega⟩
      have t2_w := b32_t (x := c_w.1 a_w 13) (e := Int32.ofNat p_w) ⟨by omega, by omega⟩
      rw [pn] at t1_w t2_w
      have bt_w := ((n3_w p_w hp).2.2 e he).1
      unfold d_X5_beginOf_l18b at hz
      rw [n2_w.1, pt, if_neg (show ¬ (P_w : Int) ≤ p_w by omega), if_neg hx, en, pn, show 30 + 1 = 31 from rfl, g31 p_w hp, fn_w, p1_w] at hz
      by_cases cb : b32 (c_w.1 (a_w + 6) e) p_w = true
      · have ib : to_w p_w = e := bt_w.mp cb
        rw [if_pos (show ¬ ((c_w.1 (a_w + 6) e >>> (Int32.ofNat p_w &&& 31)) &&& 1).toInt = 0 from fun q_w => by have := t1_w.mp q_w; rw [cb] at this; cases this)] at hz
        have fin_w : ∀ s : Int32, s.toInt = (if b32 (c_w.1 a_w 13) p_w = true then (c_w.1 (c_w.2.2.1 30 9) (fr_w p_w)).toInt else (c_w.1 (c_w.2.2.1 30 8) (fr_w p_w)).toInt) → d_X5_beginOf_b88 30 a_w (Int32.ofNat e) x (Int32.ofNat p_w) s c_w = some r_w → ∃ x' : Int32, r_w = .inl (x', Int32.ofNat (p_w + 1)) ∧ MXw (fun p_w => to_w p_w = e) (fun p_w => if b32 (c_w.1 a_w 13) p_w = true then (c_w.1 (c_w.2.2.1 30 9) (fr_w p_w)).toInt else (c_w.1 (c_w.2.2.1 30 8) (fr_w p_w)).toInt) (p_w + 1) x'.toInt := fun s hs hz => by
          unfold d_X5_beginOf_b88 d_J9_max_7cf53 at hz
          rw [p1_w] at hz
          by_cases cs : s.toInt = -1
          · rw [if_neg (fun q_w => q_w cs)] at hz
            exact ⟨-1, (Option.some.inj hz).symm, MXw.s1 (show to_w p_w = e from ib) (hs.symm.trans cs)⟩
          · rw [if_pos cs] at hz
            refine ⟨_, (Option.some.inj hz).symm, ?_⟩
            have m2_w := M.s2 hx (show to_w p_w = e from ib) (show _ ≠ (-1 : Int) by rw [← hs]; exact cs)
            have ev_w : (if x.toInt < s.toInt then s else x).toInt = if x.toInt < s.toInt then s.toInt else x.toInt := by split <;> rfl
            rw [ev_w, hs]
            exact m2_w
        by_cases ct : b32 (c_w.1 a_w 13) p_w = true
        · rw [if_neg (show ¬ ((c_w.1 a_w 13 >>> (Int32.ofNat p_w &&& 31)) &&& 1).toInt = 0 from fun q_w => by have := t2_w.mp q_w; rw [ct] at this; cases this)] at hz
          exact fin_w _ (by rw [if_pos ct]) hz
        · rw [if_pos (t2_w.mpr (eq_false_of_ne_true ct))] at hz
          exact fin_w _ (by rw [if_neg ct]) hz
      · rw [if_neg (show ¬ ¬ ((c_w.1 (a_w + 6) e >>> (Int32.ofNat p_w &&& 31)) &&& 1).toInt = 0 from fun q_w => q_w (t1_w.mpr (eq_false_of_ne_true cb)))] at hz
        exact ⟨x, (Option.some.inj hz).symm, M.s0 (fun q_w => cb (bt_w.mpr q_w))⟩
    refine dc_lp_inv (s := ((0 : Int32), (0 : Int32))) (fun s : Int32 × Int32 => ∃ p_w : Nat, p_w ≤ P_w ∧ s.2 = Int32.ofNat p_w ∧ MXw (fun p_w => to_w p_w = e) (fun p_w => if b32 (c_w.1 a_w 13) p_w = true then (c_w.1 (c_w.2.2.1 30 9) (fr_w p_w)).toInt else (c_w.1 (c_w.2.2.1 30 8) (fr_w p_w)).toInt) p_w s.1.toInt) (fun q_w : Int32 => MXw (fun p_w => to_w p_w = e) (fun p_w => if b32 (c_w.1 a_w 13) p_w = true then (c_w.1 (c_w.2.2.1 30 9) (fr_w p_w)).toInt else (c_w.1 (c_w.2.2.1 30 8) (fr_w p_w)).toInt) P_w q_w.toInt) (fun s s' hI hs => ?_) (fun s u_w hI hs => ?_) ⟨0, Nat.zero_le _, rfl, MXw.zw⟩ h_w
    · obtain ⟨p_w, p1_w, p2_w, p3⟩ := hI
      obtain ⟨x, y_w⟩ := s
      have p2_w : y_w = Int32.ofNat p_w := p2_w
      have p3 : MXw _ _ p_w x.toInt := p3
      have hs : d_X5_beginOf_l18b 30 a_w (Int32.ofNat e) x y_w c_w = some (.inl s') := hs
      rw [p2_w] at hs
      have pt : (Int32.ofNat p_w).toInt = p_w := mk_i (by omega)
      by_cases c1_w : p_w < P_w
      · by_cases c2_w : x.toInt = -1
        · unfold d_X5_beginOf_l18b at hs
          rw [n2_w.1, pt, if_neg (show ¬ (P_w : Int) ≤ p_w by omega), if_pos c2_w] at hs
          cases hs
        · obtain ⟨x', r1_w, r2⟩ := step_w p_w x _ c1_w c2_w p3 hs
          have r1_w := Sum.inl.inj r1_w
          rw [r1_w]
          exact ⟨p_w + 1, by omega, rfl, r2⟩
      · unfold d_X5_beginOf_l18b at hs
        rw [n2_w.1, pt, if_pos (show (P_w : Int) ≤ p_w by omega)] at hs
        cases hs
    · obtain ⟨p_w, p1_w, p2_w, p3⟩ := hI
      obtain ⟨x, y_w⟩ := s
      have p2_w : y_w = Int32.ofNat p_w := p2_w
      have p3 : MXw _ _ p_w x.toInt := p3
      have hs : d_X5_beginOf_l18b 30 a_w (Int32.ofNat e) x y_w c_w = some (.inr u_w) := hs
      rw [p2_w] at hs
      have pt : (Int32.ofNat p_w).toInt = p_w := mk_i (by omega)
      by_cases c1_w : p_w < P_w
      · by_cases c2_w : x.toInt = -1
        · unfold d_X5_beginOf_l18b at hs
          rw [n2_w.1, pt, if_neg (show ¬ (P_w : Int) ≤ p_w by omega), if_pos c2_w] at hs
          have hs : x = u_w := Sum.inr.inj (Option.some.inj hs)
          rw [← hs]
          rw [c2_w] at p3 ⊢
          exact p3.mw p1_w
        · obtain ⟨x', r1_w, r2⟩ := step_w p_w x _ c1_w c2_w p3 hs
          cases r1_w
      · unfold d_X5_beginOf_l18b at hs
        rw [n2_w.1, pt, if_pos (show (P_w : Int) ≤ p_w by omega)] at hs
        have hs : x = u_w := Sum.inr.inj (Option.some.inj hs)
        have pe : p_w = P_w := by omega
        rw [← hs, ← pe]
        exact p3
