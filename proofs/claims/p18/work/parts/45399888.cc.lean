/-! ===== cost: the class's least cover ===== -/
theorem wsw.lb {n_w : Nat} {wt : Nat → Nat} (hw : ∀ p_w, p_w < n_w → 256 ≤ wt p_w) : ∀ {L : List Nat}, (∀ p_w, p_w ∈ L → p_w < n_w) → 256 * L.length ≤ wsw wt L
  | [], _ => Nat.le_refl _
  | p_w :: L, h_w => by
    have i_w := wsw.lb hw (L := L) (fun q_w hq => h_w q_w (List.mem_cons_of_mem _ hq))
    have := hw p_w (h_w p_w List.mem_cons_self)
    show 256 * (L.length + 1) ≤ wt p_w + wsw wt L
    omega
/-- the least weight of all covers -/
def MNw (n_w : Nat) (ca : Nat → Nat → Bool) (wt : Nat → Nat) (O_w : Nat → Bool) (v_w : Nat) : Prop := (∃ L, CVw n_w ca O_w L ∧ wsw wt L = v_w) ∧ ∀ L, CVw n_w ca O_w L → v_w ≤ wsw wt L
/-- the first cubes of a_w row -/
def tkl (t_w : Nat → Nat) : Nat → List Nat
  | 0 => []
  | k_w + 1 => t_w k_w :: tkl t_w k_w
theorem tkl.len {t_w : Nat → Nat} : ∀ k_w, (tkl t_w k_w).length = k_w
  | 0 => rfl
  | k_w + 1 => by show (tkl t_w k_w).length + 1 = k_w + 1; rw [tkl.len k_w]
theorem tkl.mem {t_w : Nat → Nat} {p_w : Nat} : ∀ {k_w : Nat}, p_w ∈ tkl t_w k_w ↔ ∃ i_w, i_w < k_w ∧ t_w i_w = p_w
  | 0 => ⟨fun h_w => (by cases h_w), fun ⟨i_w, h_w, _⟩ => absurd h_w (Nat.not_lt_zero i_w)⟩
  | k_w + 1 => by
    show p_w ∈ t_w k_w :: tkl t_w k_w ↔ _
    rw [List.mem_cons, tkl.mem]
    constructor
    · rintro (h_w | ⟨i_w, h1, h2⟩)
      · exact ⟨k_w, Nat.lt_succ_self k_w, h_w.symm⟩
      · exact ⟨i_w, by omega, h2⟩
    · rintro ⟨i_w, h1, h2⟩
      by_cases e_w : i_w = k_w
      · left; rw [← h2, e_w]
      · exact Or.inr ⟨i_w, by omega, h2⟩
theorem tkl.cg {t_w t' : Nat → Nat} : ∀ {k_w : Nat}, (∀ i_w, i_w < k_w → t_w i_w = t' i_w) → tkl t_w k_w = tkl t' k_w
  | 0, _ => rfl
  | k_w + 1, h_w => by
    show t_w k_w :: tkl t_w k_w = t' k_w :: tkl t' k_w
    rw [h_w k_w (Nat.lt_succ_self k_w), tkl.cg (fun i_w hi_w => h_w i_w (by omega))]
section CBw
variable {n_w : Nat} {ca : Nat → Nat → Bool} {wt : Nat → Nat} {on_w : Int64} {m_w : dc_M}
theorem lwt_w {X : Int64} {lim r_w : Int32} (B : CBw n_w ca wt on_w m_w) (l0 : -300 ≤ lim.toInt) (l1 : lim.toInt ≤ 8448) (sub_w : ∀ j_w, mk_bt X j_w = true → mk_bt on_w j_w = true) (h_w : d_X1_leastWeight 21 X lim 0 m_w = some r_w) : LWw n_w ca wt (mk_bt X) 32 lim.toInt r_w.toInt := (lww_w B _ X lim 0 r_w h_w (by decide) (by decide) l0 l1 sub_w).1
theorem ftc_w {X : Int64} {l b_w : Nat} {q_w : Int32} (B : CBw n_w ca wt on_w m_w) (hl : l < 64) (b8 : b_w ≤ 8448) (sub_w : ∀ j_w, mk_bt X j_w = true → mk_bt on_w j_w = true) (h_w : d_X1_firstThatCanDo 21 X (Int32.ofNat l) (Int32.ofNat b_w) m_w = some q_w) : (q_w = -4 ∧ ∀ p_w, p_w < n_w → ca p_w l = true → wt p_w ≤ b_w → ∀ L, CVw n_w ca (fun j_w => mk_bt X j_w && !ca p_w j_w) L → L.length ≤ 32 → b_w - wt p_w < wsw wt L) ∨ ∃ p_w, p_w < n_w ∧ q_w = Int32.ofNat p_w ∧ ca p_w l = true ∧ wt p_w ≤ b_w ∧ ∃ L, CVw n_w ca (fun j_w => mk_bt X j_w && !ca p_w j_w) L ∧ wsw wt L ≤ b_w - wt p_w := by
  obtain ⟨⟨b1, b2⟩, b3, b4, -⟩ := id B
  have bt_w : (Int32.ofNat b_w).toInt = b_w := mk_i (by omega)
  unfold d_X1_firstThatCanDo d_X1_firstThatCanDo_l3 at h_w
  have step_w : ∀ (p_w : Nat) (r_w : Int32 ⊕ Int32), p_w < n_w → d_X1_firstThatCanDo_l3b 21 X (Int32.ofNat l) (Int32.ofNat b_w) (Int32.ofNat p_w) m_w = some r_w → (r_w = .inl (Int32.ofNat (p_w + 1)) ∧ (ca p_w l = true → wt p_w ≤ b_w → ∀ L, CVw n_w ca (fun j_w => mk_bt X j_w && !ca p_w j_w) L → L.length ≤ 32 → b_w - wt p_w < wsw wt L)) ∨ (r_w = .inr (Int32.ofNat p_w) ∧ ca p_w l = true ∧ wt p_w ≤ b_w ∧ ∃ L, CVw n_w ca (fun j_w => mk_bt X j_w && !ca p_w j_w) L ∧ wsw wt L ≤ b_w - wt p_w) := fun p_w r_w pn hz => by
    obtain ⟨w1_w, w2_w, w3_w⟩ := b3 p_w pn
    unfold d_X1_firstThatCanDo_l3b at hz
    rw [b1, mk_i (by omega), mk_i (by omega), if_neg (show ¬ (n_w : Int) ≤ p_w by omega), on_n (show p_w < 1000 by omega), show 21 + 4 = 25 from rfl, show 21 + 3 = 24 from rfl, on_1 (show p_w < 1000 by omega), ubit_w _ hl, b4 p_w pn, w1_w, bt_w] at hz
    by_cases k1_w : ca p_w l = true
    · rw [if_neg (fun q_w => by rw [cb0_w, k1_w] at q_w; cases q_w)] at hz
      by_cases k2_w : (wt p_w : Int) ≤ b_w
      · rw [if_pos k2_w] at hz
        obtain ⟨f_w, hf, hz⟩ := Option.bind_eq_some_iff.mp hz
        have a1_w : (Int32.ofNat b_w - m_w.1 24 p_w).toInt = (b_w : Int) - wt p_w := by rw [Int32.toInt_sub, bt_w, w1_w, sx_bm (by omega) (by omega)]
        have LW := lwt_w B (by rw [a1_w]; omega) (by rw [a1_w]; omega) (fun j_w hj => by
          rw [nn_w B pn, Bool.and_eq_true] at hj
          exact sub_w j_w hj.1) hf
        rw [a1_w, show mk_bt (X &&& (m_w.2.1 25 p_w ^^^ -1)) = (fun j_w => mk_bt X j_w && !ca p_w j_w) from funext (nn_w B pn)] at LW
        rw [a1_w] at hz
        by_cases k3_w : (b_w : Int) - wt p_w < f_w.toInt
        · rw [if_pos k3_w] at hz
          exact Or.inl ⟨(Option.some.inj hz).symm, fun _ _ L hL lL => by have := LW.2 k3_w L hL lL; omega⟩
        · rw [if_neg k3_w] at hz
          obtain ⟨v_w, v1_w, ⟨L, L1, L2_w, L3_w⟩, -⟩ := LW.1 (by omega)
          exact Or.inr ⟨(Option.some.inj hz).symm, k1_w, by omega, L, L1, by omega⟩
      · rw [if_neg k2_w] at hz
        exact Or.inl ⟨(Option.some.inj hz).symm, fun _ q_w => by omega⟩
    · rw [if_pos (cb0_w.mpr (eq_false_of_ne_true k1_w))] at hz
      exact Or.inl ⟨(Option.some.inj hz).symm, fun q_w => absurd q_w k1_w⟩
  refine dc_lp_inv (s := (0 : Int32)) (fun s : Int32 => ∃ p_w, p_w ≤ n_w ∧ s = Int32.ofNat p_w ∧ ∀ q_w, q_w < p_w → ca q_w l = true → wt q_w ≤ b_w → ∀ L, CVw n_w ca (fun j_w => mk_bt X j_w && !ca q_w j_w) L → L.length ≤ 32 → b_w - wt q_w < wsw wt L) (fun q_w => (q_w = -4 ∧ ∀ p_w, p_w < n_w → ca p_w l = true → wt p_w ≤ b_w → ∀ L, CVw n_w ca (fun j_w => mk_bt X j_w && !ca p_w j_w) L → L.length ≤ 32 → b_w - wt p_w < wsw wt L) ∨ ∃ p_w, p_w < n_w ∧ q_w = Int32.ofNat p_w ∧ ca p_w l = true ∧ wt p_w ≤ b_w ∧ ∃ L, CVw n_w ca (fun j_w => mk_bt X j_w && !ca p_w j_w) L ∧ wsw wt L ≤ b_w - wt p_w) (fun s s' hI hs => ?_) (fun s u_w hI hs => ?_) ⟨0, Nat.zero_le _, rfl, fun j_w hj => absurd hj (Nat.not_lt_zero j_w)⟩ h_w
  · obtain ⟨p_w, i1_w, i2_w, i3_w⟩ := hI
    have hs : d_X1_firstThatCanDo_l3b 21 X (Int32.ofNat l) (Int32.ofNat b_w) s m_w = some (.inl s') := hs
    rw [i2_w] at hs
    by_cases c_w : p_w < n_w
    · rcases step_w p_w _ c_w hs with ⟨r1_w, r2⟩ | ⟨r1_w, -⟩
      · rw [Sum.inl.inj r1_w]
        refine ⟨p_w + 1, c_w, rfl, fun r_w hr => ?_⟩
        by_cases e_w : r_w = p_w
        · rw [e_w]; exact r2
        · exact i3_w r_w (by omega)
      · cases r1_w
    · unfold d_X1_firstThatCanDo_l3b at hs
      rw [b1, mk_i (by omega), mk_i (by omega), if_pos (show (n_w : Int) ≤ p_w by omega)] at hs
      cases hs
  · obtain ⟨p_w, i1_w, i2_w, i3_w⟩ := hI
    have hs : d_X1_firstThatCanDo_l3b 21 X (Int32.ofNat l) (Int32.ofNat b_w) s m_w = some (.inr u_w) := hs
    rw [i2_w] at hs
    by_cases c_w : p_w < n_w
    · rcases step_w p_w _ c_w hs with ⟨r1_w, r2⟩ | ⟨r1_w, r2⟩
      · cases r1_w
      · exact Or.inr ⟨p_w, c_w, Sum.inr.inj r1_w, r2⟩
    · unfold d_X1_firstThatCanDo_l3b at hs
      rw [b1, mk_i (by omega), mk_i (by omega), if_pos (show (n_w : Int) ≤ p_w by omega)] at hs
      rw [show p_w = n_w by omega] at i3_w
      exact Or.inl ⟨(Sum.inr.inj (Option.some.inj hs)).symm, i3_w⟩
/-- a_w cover taken: its sum is the least -/
def TKl (n_w : Nat) (ca : Nat → Nat → Bool) (wt : Nat → Nat) (on_w : Int64) (W0_w : Nat) (m0_w m_w : dc_M) (t_w : Nat → Nat) (tk : Nat) : Prop := tk ≤ 32 ∧ CVw n_w ca (mk_bt on_w) (tkl t_w tk) ∧ wsw wt (tkl t_w tk) = W0_w ∧ (∀ b_w, b_w ≠ 22 → m_w.1 b_w = m0_w.1 b_w) ∧ m_w.2 = m0_w.2 ∧ ∀ i_w, i_w < tk → m_w.1 22 i_w = m0_w.1 23 (t_w i_w)
theorem chs_w {q_w : Int32} {m' : dc_M} (B : CBw n_w ca wt on_w m_w) (ex_w : ∃ L, CVw n_w ca (mk_bt on_w) L ∧ L.length ≤ 32) (h_w : d_X1_choose 21 on_w m_w = some (q_w, m')) : ∃ W0_w t_w tk, MNw n_w ca wt (mk_bt on_w) W0_w ∧ TKl n_w ca wt on_w W0_w m_w m' t_w tk ∧ q_w = Int32.ofNat tk := by
  obtain ⟨⟨b1, b2⟩, b3, b4, -⟩ := id B
  have w256 : ∀ p_w, p_w < n_w → 256 ≤ wt p_w := fun p_w hp => (b3 p_w hp).2.1
  have up_w : ∀ L : List Nat, (∀ p_w, p_w ∈ L → p_w < n_w) → wsw wt L ≤ 262 * L.length := fun L => by
    induction L with
    | nil => intro _; exact Nat.le_refl _
    | cons p_w L ih =>
      intro h_w
      have a_w := ih (fun q_w hq => h_w q_w (List.mem_cons_of_mem _ hq))
      have c_w := (b3 p_w (h_w p_w List.mem_cons_self)).2.2
      show wt p_w + wsw wt L ≤ 262 * (L.length + 1)
      omega
  unfold d_X1_choose at h_w
  obtain ⟨r0, hr, h_w⟩ := Option.bind_eq_some_iff.mp h_w
  have LW := lwt_w (X := on_w) B (show -300 ≤ (8448 : Int32).toInt by decide) (show (8448 : Int32).toInt ≤ 8448 by decide) (fun _ q_w => q_w) hr
  rw [show (8448 : Int32).toInt = 8448 from rfl] at LW
  obtain ⟨L0_w, e1_w, e2_w⟩ := ex_w
  have u0 := up_w L0_w e1_w.1
  obtain ⟨W0_w, v1_w, ⟨LM, m1_w, m2_w, m3_w⟩, v2⟩ := LW.1 (Int.not_lt.mp (fun q_w => by have := LW.2 q_w L0_w e1_w e2_w; omega))
  have W8 : W0_w ≤ 8384 := by have := v2 L0_w e1_w e2_w; omega
  have mn0 : MNw n_w ca wt (mk_bt on_w) W0_w := ⟨⟨LM, m1_w, m3_w⟩, fun L hL => by
    by_cases z_w : L.length ≤ 32
    · exact v2 L hL z_w
    · have := wsw.lb w256 hL.1
      omega⟩
  refine ⟨W0_w, ?_⟩
  have hr0 : r0 = Int32.ofNat W0_w := Int32.toInt_inj.mp (by rw [v1_w, mk_i (by omega)])
  rw [hr0] at h_w
  unfold d_X1_choose_l19 at h_w
  -- what is left and what is taken
  obtain ⟨J_w, hJ⟩ : ∃ J_w : Int64 → Nat → Nat → dc_M → (Nat → Nat) → Prop, ∀ X b_w tk z_w t_w, J_w X b_w tk z_w t_w ↔ ((∀ j_w, mk_bt X j_w = true → mk_bt on_w j_w = true) ∧ MNw n_w ca wt (mk_bt X) b_w ∧ tk ≤ 32 ∧ wsw wt (tkl t_w tk) + b_w = W0_w ∧ (∀ i_w, i_w < tk → t_w i_w < n_w) ∧ (∀ j_w, mk_bt on_w j_w = true → mk_bt X j_w = true ∨ ∃ i_w, i_w < tk ∧ ca (t_w i_w) j_w = true) ∧ (∀ b_w, b_w ≠ 22 → z_w.1 b_w = m_w.1 b_w) ∧ z_w.2 = m_w.2 ∧ ∀ i_w, i_w < tk → z_w.1 22 i_w = m_w.1 23 (t_w i_w)) := ⟨_, fun _ _ _ _ _ => Iff.rfl⟩
  have done_w : ∀ X b_w tk z_w t_w, J_w X b_w tk z_w t_w → (∀ j_w, mk_bt X j_w = false) → ∃ t_w tk', MNw n_w ca wt (mk_bt on_w) W0_w ∧ TKl n_w ca wt on_w W0_w m_w z_w t_w tk' ∧ Int32.ofNat tk = Int32.ofNat tk' := fun X b_w tk z_w t_w Q_w no_w => by
    obtain ⟨j1, j2_w, j3_w, j4_w, j5_w, j6_w, j7_w, j8_w, j9_w⟩ := (hJ _ _ _ _ _).mp Q_w
    have b0 : b_w ≤ 0 := j2_w.2 [] ⟨fun p_w hp => (by cases hp), fun l hl => (by rw [no_w l] at hl; cases hl)⟩
    refine ⟨t_w, tk, mn0, ⟨j3_w, ⟨fun p_w hp => ?_, fun l hl => ?_⟩, by omega, j7_w, j8_w, j9_w⟩, rfl⟩
    · obtain ⟨i_w, i1_w, i2_w⟩ := tkl.mem.mp hp
      rw [← i2_w]; exact j5_w i_w i1_w
    · rcases j6_w l hl with w_w | ⟨i_w, i1_w, i2_w⟩
      · rw [no_w l] at w_w; cases w_w
      · exact ⟨t_w i_w, tkl.mem.mpr ⟨i_w, i1_w, rfl⟩, i2_w⟩
  refine dc_lp_inv (s := (on_w, Int32.ofNat W0_w, (0 : Int32), (0 : Int32), m_w)) (fun s : Int64 × Int32 × Int32 × Int32 × dc_M => ∃ b_w tk l t_w, l ≤ 64 ∧ s.2.1 = Int32.ofNat b_w ∧ s.2.2.1 = Int32.ofNat tk ∧ s.2.2.2.1 = Int32.ofNat l ∧ (∀ j_w, j_w < l → mk_bt s.1 j_w = false) ∧ J_w s.1 b_w tk s.2.2.2.2 t_w) (fun u_w : Int32 × dc_M => (q_w, m') = u_w → ∃ t_w tk, MNw n_w ca wt (mk_bt on_w) W0_w ∧ TKl n_w ca wt on_w W0_w m_w m' t_w tk ∧ q_w = Int32.ofNat tk) (fun s s' hI hs => ?_) (fun s u_w hI hs => ?_) ⟨W0_w, 0, 0, fun _ => 0, Nat.zero_le _, rfl, rfl, rfl, fun j_w hj => absurd hj (Nat.not_lt_zero j_w), (hJ _ _ _ _ _).mpr ⟨fun _ q_w => q_w, mn0, Nat.zero_le _, Nat.zero_add _, fun i_w hi_w => absurd hi_w (Nat.not_lt_zero i_w), fun j_w hj => Or.inl hj, fun _ _ => rfl, rfl, fun i_w hi_w => absurd hi_w (Nat.not_lt_zero i_w)⟩⟩ h_w rfl
  · obtain ⟨b_w, tk, l, t_w, i1_w, i2_w, i3_w, i4_w, i5_w, i6_w⟩ := hI
    obtain ⟨X, x5_w, x6, x7, z_w⟩ := s
    have i2_w : x5_w = Int32.ofNat b_w := i2_w
    have i3_w : x6 = Int32.ofNat tk := i3_w
    have i4_w : x7 = Int32.ofNat l := i4_w
    have i5_w : ∀ j_w, j_w < l → mk_bt X j_w = false := i5_w
    have i6_w : J_w X b_w tk z_w t_w := i6_w
    obtain ⟨j1, j2_w, j3_w, j4_w, j5_w, j6_w, j7_w, j8_w, j9_w⟩ := (hJ _ _ _ _ _).mp i6_w
    have hs : d_X1_choose_l19b 21 X x5_w x6 x7 z_w = some (.inl s') := hs
    unfold d_X1_choose_l19b at hs
    rw [i2_w, i3_w, i4_w, mk_i (by omega), mk_i (by omega)] at hs
    by_cases c1_w : (64 : Int) ≤ l
    · rw [if_pos c1_w] at hs; cases hs
    · rw [if_neg c1_w] at hs
      by_cases c2_w : (32 : Int) ≤ tk
      · rw [if_pos c2_w] at hs; cases hs
      · rw [if_neg c2_w, ubit_w _ (show l < 64 by omega)] at hs
        by_cases c3_w : mk_bt X l = true
        · rw [if_pos (fun q_w => by rw [cb0_w, c3_w] at q_w; cases q_w)] at hs
          obtain ⟨f_w, hf, hs⟩ := Option.bind_eq_some_iff.mp hs
          have Bz : CBw n_w ca wt on_w z_w := B.eqw j7_w (by rw [j8_w])
          rcases ftc_w Bz (show l < 64 by omega) (show b_w ≤ 8448 by omega) j1 hf with ⟨f1_w, f2_w⟩ | ⟨p_w, p1_w, p2_w, p3_w, p4_w, L, L1, L2_w⟩
          · rw [f1_w, if_neg (show ¬ 0 ≤ (-4 : Int32).toInt by decide)] at hs; cases hs
          · have pt : (Int32.ofNat p_w).toInt = p_w := mk_i (by omega)
            rw [p2_w, pt, if_pos (show (0 : Int) ≤ p_w by omega), on_n (show p_w < 1000 by omega), on_n (show tk < 1000 by omega), on_1 (show tk < 1000 by omega), on_1 (show l < 1000 by omega)] at hs
            have hs := Sum.inl.inj (Option.some.inj hs)
            rw [← hs]
            have w1_w : (z_w.1 24 p_w).toInt = wt p_w := by rw [j7_w 24 (by decide)]; exact (b3 p_w p1_w).1
            have e25_w : z_w.2.1 25 p_w = m_w.2.1 25 p_w := by rw [j8_w]
            have nb : Int32.ofNat b_w - (dc_wi z_w (21 + 1) tk (z_w.1 (21 + 2) p_w)).1 (21 + 3) p_w = Int32.ofNat (b_w - wt p_w) := by
              refine Int32.toInt_inj.mp ?_
              rw [wi_k (by omega)]
              show (Int32.ofNat b_w - z_w.1 24 p_w).toInt = _
              rw [Int32.toInt_sub, mk_i (by omega), w1_w, mk_i (by omega), sx_bm (by omega) (by omega)]
              omega
            have nX : ∀ j_w, mk_bt (X &&& (z_w.2.1 25 p_w ^^^ -1)) j_w = (mk_bt X j_w && !ca p_w j_w) := nn_w Bz p1_w
            refine ⟨b_w - wt p_w, tk + 1, l + 1, fun i_w => if i_w = tk then p_w else t_w i_w, by omega, nb, rfl, rfl, fun j_w hj => ?_, (hJ _ _ _ _ _).mpr ⟨fun j_w hj => ?_, ⟨⟨L, ?_, ?_⟩, fun K_w hK_w => ?_⟩, by omega, ?_, fun i_w hi_w => ?_, fun j_w hj => ?_, fun y_w hy => ?_, j8_w, fun i_w hi_w => ?_⟩⟩
            · show mk_bt (X &&& (z_w.2.1 25 p_w ^^^ -1)) j_w = false
              rw [nX]
              by_cases e_w : j_w = l
              · rw [e_w, p3_w, c3_w]; rfl
              · rw [i5_w j_w (by omega)]; rfl
            · have hj : mk_bt (X &&& (z_w.2.1 25 p_w ^^^ -1)) j_w = true := hj
              rw [nX, Bool.and_eq_true] at hj
              exact j1 j_w hj.1
            · show CVw n_w ca (mk_bt (X &&& (z_w.2.1 25 p_w ^^^ -1))) L
              rw [funext nX]; exact L1
            · have a_w := j2_w.2 (p_w :: L) (L1.cn p1_w (fun j_w hj => by
                show (mk_bt X j_w && !ca p_w j_w) = true ∨ _
                rw [hj, Bool.true_and]
                cases ca p_w j_w
                · exact Or.inl rfl
                · exact Or.inr rfl))
              have a_w : b_w ≤ wt p_w + wsw wt L := a_w
              omega
            · have hK_w : CVw n_w ca (mk_bt (X &&& (z_w.2.1 25 p_w ^^^ -1))) K_w := hK_w
              rw [funext nX] at hK_w
              have a_w := j2_w.2 (p_w :: K_w) (hK_w.cn p1_w (fun j_w hj => by
                show (mk_bt X j_w && !ca p_w j_w) = true ∨ _
                rw [hj, Bool.true_and]
                cases ca p_w j_w
                · exact Or.inl rfl
                · exact Or.inr rfl))
              have a_w : b_w ≤ wt p_w + wsw wt K_w := a_w
              omega
            · show wt (if tk = tk then p_w else t_w tk) + wsw wt (tkl (fun i_w => if i_w = tk then p_w else t_w i_w) tk) + (b_w - wt p_w) = W0_w
              rw [if_pos rfl, tkl.cg (t' := t_w) (fun i_w hi_w => if_neg (by omega))]
              omega
            · show (if i_w = tk then p_w else t_w i_w) < n_w
              by_cases e_w : i_w = tk
              · rw [if_pos e_w]; exact p1_w
              · rw [if_neg e_w]; exact j5_w i_w (by omega)
            · show mk_bt (X &&& (z_w.2.1 25 p_w ^^^ -1)) j_w = true ∨ _
              rw [nX]
              rcases j6_w j_w hj with w_w | ⟨i_w, w1_w, w2_w⟩
              · by_cases e_w : ca p_w j_w = true
                · exact Or.inr ⟨tk, by omega, by show ca (if tk = tk then p_w else t_w tk) j_w = true; rw [if_pos rfl]; exact e_w⟩
                · left; rw [w_w, eq_false_of_ne_true e_w]; rfl
              · exact Or.inr ⟨i_w, by omega, by show ca (if i_w = tk then p_w else t_w i_w) j_w = true; rw [if_neg (by omega)]; exact w2_w⟩
            · show (dc_wi z_w 22 tk _).1 y_w = _
              exact (funext (fun k_w => wi_k (by omega))).trans (j7_w y_w hy)
            · show (dc_wi z_w 22 tk (z_w.1 23 p_w)).1 22 i_w = m_w.1 23 (if i_w = tk then p_w else t_w i_w)
              by_cases e_w : i_w = tk
              · rw [if_pos e_w, e_w, wi_s, j7_w 23 (by decide)]
              · rw [if_neg e_w, wi_k (by omega)]; exact j9_w i_w (by omega)
        · rw [if_neg (fun q_w => q_w (cb0_w.mpr (eq_false_of_ne_true c3_w))), on_1 (show l < 1000 by omega)] at hs
          have hs := Sum.inl.inj (Option.some.inj hs)
          rw [← hs]
          refine ⟨b_w, tk, l + 1, t_w, by omega, rfl, rfl, rfl, fun j_w hj => ?_, i6_w⟩
          by_cases e_w : j_w = l
          · rw [e_w]; exact eq_false_of_ne_true c3_w
          · exact i5_w j_w (by omega)
  · intro hu
    obtain ⟨b_w, tk, l, t_w, i1_w, i2_w, i3_w, i4_w, i5_w, i6_w⟩ := hI
    obtain ⟨X, x5_w, x6, x7, z_w⟩ := s
    have i2_w : x5_w = Int32.ofNat b_w := i2_w
    have i3_w : x6 = Int32.ofNat tk := i3_w
    have i4_w : x7 = Int32.ofNat l := i4_w
    have i5_w : ∀ j_w, j_w < l → mk_bt X j_w = false := i5_w
    have i6_w : J_w X b_w tk z_w t_w := i6_w
    obtain ⟨j1, j2_w, j3_w, j4_w, j5_w, j6_w, j7_w, j8_w, j9_w⟩ := (hJ _ _ _ _ _).mp i6_w
    have hs : d_X1_choose_l19b 21 X x5_w x6 x7 z_w = some (.inr u_w) := hs
    unfold d_X1_choose_l19b at hs
    rw [i2_w, i3_w, i4_w, mk_i (by omega), mk_i (by omega)] at hs
    have out_w : (∀ j_w, mk_bt X j_w = false) → (Int32.ofNat tk, z_w) = u_w → ∃ t_w tk, MNw n_w ca wt (mk_bt on_w) W0_w ∧ TKl n_w ca wt on_w W0_w m_w m' t_w tk ∧ q_w = Int32.ofNat tk := fun no_w e_w => by
      have r_w := Prod.mk.inj (hu.trans e_w.symm)
      rw [r_w.1, r_w.2]
      exact done_w X b_w tk z_w t_w i6_w no_w
    by_cases c1_w : (64 : Int) ≤ l
    · rw [if_pos c1_w] at hs
      refine out_w (fun j_w => eq_false_of_ne_true (fun y_w => ?_)) (Sum.inr.inj (Option.some.inj hs))
      rw [i5_w j_w (by have := bl64_w y_w; omega)] at y_w
      cases y_w
    · rw [if_neg c1_w] at hs
      by_cases c2_w : (32 : Int) ≤ tk
      · rw [if_pos c2_w] at hs
        refine out_w (fun j_w => eq_false_of_ne_true (fun y_w => ?_)) (Sum.inr.inj (Option.some.inj hs))
        have a_w := wsw.lb w256 (L := tkl t_w tk) (fun p_w hp => by
          obtain ⟨i_w, k1_w, k2_w⟩ := tkl.mem.mp hp
          rw [← k2_w]; exact j5_w i_w k1_w)
        rw [tkl.len] at a_w
        obtain ⟨⟨L, L1, L2_w⟩, -⟩ := j2_w
        have a2 := wsw.lb w256 L1.1
        have : L = [] := List.length_eq_zero_iff.mp (by omega)
        obtain ⟨p_w, p1_w, -⟩ := L1.2 j_w y_w
        rw [this] at p1_w
        cases p1_w
      · rw [if_neg c2_w, ubit_w _ (show l < 64 by omega)] at hs
        by_cases c3_w : mk_bt X l = true
        · rw [if_pos (fun q_w => by rw [cb0_w, c3_w] at q_w; cases q_w)] at hs
          obtain ⟨f_w, hf, hs⟩ := Option.bind_eq_some_iff.mp hs
          have Bz : CBw n_w ca wt on_w z_w := B.eqw j7_w (by rw [j8_w])
          rcases ftc_w Bz (show l < 64 by omega) (show b_w ≤ 8448 by omega) j1 hf with ⟨f1_w, f2_w⟩ | ⟨p_w, p1_w, p2_w, -⟩
          · exfalso
            obtain ⟨⟨L, L1, L2_w⟩, -⟩ := j2_w
            obtain ⟨p_w, p1_w, p2_w⟩ := L1.2 l c3_w
            have pe := List.perm_cons_erase p1_w
            have w_w : wsw wt L = wt p_w + wsw wt (L.erase p_w) := wsw.pm pe
            have le_w : L.length = (L.erase p_w).length + 1 := pe.length_eq
            have a2 := wsw.lb w256 L1.1
            have := f2_w p_w (L1.1 p_w p1_w) p2_w (by omega) (L.erase p_w) ((L1.pm pe).ts (fun j_w hj => by
              have hj : (mk_bt X j_w && !ca p_w j_w) = true := hj
              rw [Bool.and_eq_true] at hj
              refine ⟨hj.1, ?_⟩
              have := hj.2
              revert this
              cases ca p_w j_w <;> decide)) (by omega)
            omega
          · rw [p2_w, mk_i (by omega), if_pos (show (0 : Int) ≤ p_w by omega)] at hs; cases hs
        · rw [if_neg (fun q_w => q_w (cb0_w.mpr (eq_false_of_ne_true c3_w)))] at hs; cases hs
end CBw
