/-! ===== the reference: a_w ring of so much at least ===== -/
/-- weight of a_w walk -/
def wgw (fr_w : Nat → Nat) (tok : Nat → Bool) (dl : Nat → Int) (T U_w : Int) (l : List Nat) : Int := T * wtw fr_w dl l - U_w * tkw tok l
theorem wgw.ap {fr_w : Nat → Nat} {tok : Nat → Bool} {dl : Nat → Int} {T U_w : Int} {l r_w : List Nat} : wgw fr_w tok dl T U_w (l ++ r_w) = wgw fr_w tok dl T U_w l + wgw fr_w tok dl T U_w r_w := by
  unfold wgw
  rw [wtw.ap, tkw.ap, Int.natCast_add, Int.mul_add, Int.mul_add]
  omega
theorem wgw.cn {fr_w : Nat → Nat} {tok : Nat → Bool} {dl : Nat → Int} {T U_w : Int} {p_w : Nat} {l : List Nat} : wgw fr_w tok dl T U_w (p_w :: l) = wgw fr_w tok dl T U_w [p_w] + wgw fr_w tok dl T U_w l := wgw.ap (l := [p_w])
theorem lwg_w {E_w P_w : Nat} {fr_w to_w : Nat → Nat} {tok : Nat → Bool} {dl : Nat → Int} {m_w e_w : dc_M} {by_ less_w : Int64} {T U_w : Int} (G_w : RGw E_w P_w fr_w to_w tok dl m_w) (hby : by_.toInt = T) (hl : less_w.toInt = U_w) (hT_w : 0 ≤ T ∧ T ≤ 16) (hU : 0 ≤ U_w ∧ U_w ≤ 321) (h_w : d_X10_layWays 82 by_ less_w 0 m_w = some e_w) : kww m_w e_w ∧ (∀ a_w b_w, a_w < E_w → b_w < E_w → wyw e_w a_w b_w = FRW ∨ ∃ l, l ≠ [] ∧ chw P_w fr_w to_w a_w l b_w ∧ wyw e_w a_w b_w = wgw fr_w tok dl T U_w l) ∧ ((∀ a_w, a_w < E_w → wyw e_w a_w a_w ≤ 0) → ∀ a_w b_w l, a_w < E_w → b_w < E_w → l ≠ [] → chw P_w fr_w to_w a_w l b_w → wyw e_w a_w b_w ≠ FRW ∧ wgw fr_w tok dl T U_w l ≤ wyw e_w a_w b_w) := by
  obtain ⟨g1, g2, g3_w, g4, g5_w, g6⟩ := G_w
  have F1_w : FRW = -1000000000000 := rfl
  have vl : ∀ p_w, p_w < P_w → vlw by_ less_w fr_w m_w p_w = wgw fr_w tok dl T U_w [p_w] := fun p_w hp => by
    unfold vlw wgw
    rw [(g4 _ (g3_w p_w hp).2.1).1, g5_w p_w hp, hby, hl, Int.mul_comm]
    show T * dl (fr_w p_w) - _ = T * (dl (fr_w p_w) + 0) - U_w * (((if tok p_w = true then 1 else 0) + 0 : Nat) : Int)
    by_cases t_w : tok p_w = true
    · rw [if_pos t_w, if_pos t_w, Int.add_zero]
      omega
    · rw [if_neg t_w, if_neg t_w, Int.add_zero]
      omega
  have inn : ∀ p_w, inw 0 m_w p_w := fun p_w q_w => q_w.1 rfl
  obtain ⟨l1, l2, l3, l4⟩ := @lwy_run (fun a_w b_w v_w => ∃ l, l ≠ [] ∧ chw P_w fr_w to_w a_w l b_w ∧ v_w = wgw fr_w tok dl T U_w l) E_w P_w by_ less_w 0 fr_w to_w m_w e_w (fun a_w k_w b_w u_w v_w ⟨x, x1_w, x2_w, x3⟩ ⟨y, y1, y2, y3⟩ => ⟨y ++ x, fun q_w => y1 (List.append_eq_nil_iff.mp q_w).1, y2.ap x2_w, by rw [wgw.ap, x3, y3]; omega⟩) g1.1 g1.2 g2.1 g2.2 (fun p_w hp => ⟨(g3_w p_w hp).1.1, (g3_w p_w hp).2.1⟩) (fun p_w hp => ⟨(g3_w p_w hp).1.2, (g3_w p_w hp).2.2⟩) (fun e_w he => by rw [(g4 e_w he).1]; exact (g4 e_w he).2) (by rw [hby]; exact hT_w) (by rw [hl]; exact hU) (fun p_w hp _ => ⟨[p_w], by simp, ⟨hp, rfl, rfl⟩, vl p_w hp⟩) h_w
  refine ⟨l4, fun a_w b_w ha_w hb_w => (l1 a_w b_w ha_w hb_w).imp id (fun w_w => w_w.2.2), fun hd_w a_w b_w l ha_w hb_w => ?_⟩
  have C_w := l2.resolve_left (fun ⟨d_w, d1_w, d2_w⟩ => by have := hd_w d_w d1_w; omega)
  have low_w : ∀ a_w b_w, a_w < E_w → b_w < E_w → wyw e_w a_w b_w ≠ FRW → -30000000 ≤ wyw e_w a_w b_w := fun a_w b_w ha_w hb_w n_w => by
    have := ((l1 a_w b_w ha_w hb_w).resolve_left n_w).1
    have := (UBw.bw E_w (by omega)).2.2.2
    omega
  have one_w : ∀ p_w, p_w < P_w → wyw e_w (fr_w p_w) (to_w p_w) ≠ FRW ∧ wgw fr_w tok dl T U_w [p_w] ≤ wyw e_w (fr_w p_w) (to_w p_w) := fun p_w hp => by
    have w_w := l3 p_w hp (inn p_w)
    rw [vl p_w hp] at w_w
    refine ⟨fun q_w => ?_, w_w⟩
    have d_w := (g4 _ (g3_w p_w hp).2.1).2
    have n_w := Int.mul_nonneg hT_w.1 d_w.1
    rw [← vl p_w hp] at w_w
    unfold vlw at w_w
    rw [(g4 _ (g3_w p_w hp).2.1).1, hby, hl, Int.mul_comm] at w_w
    split at w_w <;> omega
  have key_w : ∀ (l : List Nat) (b_w : Nat), b_w < E_w → l ≠ [] → chw P_w fr_w to_w a_w l b_w → wyw e_w a_w b_w ≠ FRW ∧ wgw fr_w tok dl T U_w l ≤ wyw e_w a_w b_w := fun l => by
    induction l with
    | nil => intro b_w hb_w n_w; exact absurd rfl n_w
    | cons p_w l ih =>
      intro b_w hb_w _ h_w
      obtain ⟨h1, h2, h3⟩ := h_w
      have o := one_w p_w h1
      rw [h2] at o
      by_cases z_w : l = []
      · rw [z_w] at h3 ⊢
        have h3 : a_w = fr_w p_w := h3
        rw [h3]
        exact o
      · have i_w := ih (fr_w p_w) (g3_w p_w h1).2.1 z_w h3
        obtain ⟨c1_w, c2_w⟩ := C_w a_w (fr_w p_w) b_w ha_w (g3_w p_w h1).2.1 hb_w i_w.1 o.1
        rw [wgw.cn]
        exact ⟨c1_w, by omega⟩
  exact key_w l b_w hb_w
theorem hr_w {E_w P_w : Nat} {fr_w to_w : Nat → Nat} {tok : Nat → Bool} {dl : Nat → Int} {m_w m' : dc_M} {up_w down_w q_w : Int32} {T U_w : Int} (G_w : RGw E_w P_w fr_w to_w tok dl m_w) (hT_w : down_w.toInt = T) (hU : up_w.toInt = U_w) (T16 : 0 ≤ T ∧ T ≤ 16) (U3 : 0 ≤ U_w ∧ U_w ≤ 321) (h_w : d_X10_hasRing 82 up_w down_w m_w = some (q_w, m')) : kww m_w m' ∧ ((q_w = 1 ∧ ∃ e_w l, e_w < E_w ∧ l ≠ [] ∧ chw P_w fr_w to_w e_w l e_w ∧ 0 ≤ wgw fr_w tok dl T U_w l) ∨ (q_w = 0 ∧ ∀ e_w l, e_w < E_w → l ≠ [] → chw P_w fr_w to_w e_w l e_w → wgw fr_w tok dl T U_w l < 0)) := by
  have g1 := G_w.1
  have F1_w : FRW = -1000000000000 := rfl
  unfold d_X10_hasRing at h_w
  cases hq : d_X10_layWays 82 (Int32.toInt64 down_w) (Int32.toInt64 up_w) 0 m_w with
  | none => rw [hq] at h_w; cases h_w
  | some e_w =>
    rw [hq, Option.bind_some] at h_w
    obtain ⟨k1_w, k2_w, k3_w⟩ := lwg_w G_w (by rw [di_il]; exact hT_w) (by rw [di_il]; exact hU) T16 U3 hq
    unfold d_X10_hasRing_l14 at h_w
    have step_w : ∀ (i_w : Nat) (x : Int32) (r_w : (Int32 × Int32) ⊕ (Int32 × dc_M)), i_w < E_w → ((x = 0 ∧ ∀ j_w, j_w < i_w → wyw e_w j_w j_w < 0) ∨ (x = 1 ∧ ∃ j_w, j_w < E_w ∧ 0 ≤ wyw e_w j_w j_w)) → d_X10_hasRing_l14b 82 x (Int32.ofNat i_w) e_w = some r_w → ∃ x' : Int32, r_w = .inl (x', Int32.ofNat (i_w + 1)) ∧ ((x' = 0 ∧ ∀ j_w, j_w < i_w + 1 → wyw e_w j_w j_w < 0) ∨ (x' = 1 ∧ ∃ j_w, j_w < E_w ∧ 0 ≤ wyw e_w j_w j_w)) := fun i_w x r_w hi_w I_w hz => by
      have ix : ((17 : Int32) * Int32.ofNat i_w).toNatClampNeg = 16 * i_w + i_w := by
        have t_w : ((17 : Int32) * Int32.ofNat i_w).toInt = ((17 * i_w : Nat) : Int) := by rw [Int32.toInt_mul, mk_i (by omega), show (17 : Int32).toInt = 17 from rfl, sx_bm (by omega) (by omega)]; omega
        show ((17 : Int32) * Int32.ofNat i_w).toInt.toNat = _
        rw [t_w]
        omega
      unfold d_X10_hasRing_l14b at hz
      rw [k1_w.1, g1.1, mk_i (by omega), if_neg (show ¬ (E_w : Int) ≤ i_w by omega), on_1 (by omega), ix, show 82 + 28 = 110 from rfl] at hz
      rcases I_w with ⟨x1_w, x2_w⟩ | ⟨x1_w, x2_w⟩
      · rw [x1_w, if_neg (fun z_w => z_w rfl)] at hz
        have lt_w := di_lt (x := e_w.2.1 110 (16 * i_w + i_w)) (y := 0)
        rw [show (0 : Int64).toInt = 0 from rfl] at lt_w
        by_cases c_w : (lg_cmp (e_w.2.1 110 (16 * i_w + i_w)) 0).toInt < 0
        · rw [if_pos c_w] at hz
          refine ⟨0, (Option.some.inj hz).symm, Or.inl ⟨rfl, fun j_w hj => ?_⟩⟩
          by_cases z_w : j_w = i_w
          · rw [z_w]; exact lt_w.mp c_w
          · exact x2_w j_w (by omega)
        · rw [if_neg c_w] at hz
          exact ⟨1, (Option.some.inj hz).symm, Or.inr ⟨rfl, i_w, hi_w, Int.not_lt.mp (fun z_w => c_w (lt_w.mpr z_w))⟩⟩
      · rw [x1_w, if_pos (show ¬ (1 : Int32).toInt = 0 by decide)] at hz
        exact ⟨1, (Option.some.inj hz).symm, Or.inr ⟨rfl, x2_w⟩⟩
    have res : e_w = m' ∧ ((q_w = 0 ∧ ∀ j_w, j_w < E_w → wyw e_w j_w j_w < 0) ∨ (q_w = 1 ∧ ∃ j_w, j_w < E_w ∧ 0 ≤ wyw e_w j_w j_w)) := by
      refine dc_lp_inv (s := ((0 : Int32), (0 : Int32))) (fun s : Int32 × Int32 => ∃ i_w : Nat, i_w ≤ E_w ∧ s.2 = Int32.ofNat i_w ∧ ((s.1 = 0 ∧ ∀ j_w, j_w < i_w → wyw e_w j_w j_w < 0) ∨ (s.1 = 1 ∧ ∃ j_w, j_w < E_w ∧ 0 ≤ wyw e_w j_w j_w))) (fun u_w : Int32 × dc_M => (q_w, m') = u_w → e_w = m' ∧ ((q_w = 0 ∧ ∀ j_w, j_w < E_w → wyw e_w j_w j_w < 0) ∨ (q_w = 1 ∧ ∃ j_w, j_w < E_w ∧ 0 ≤ wyw e_w j_w j_w))) (fun s s' hI hs => ?_) (fun s u_w hI hs => ?_) ⟨0, Nat.zero_le _, rfl, Or.inl ⟨rfl, fun j_w z_w => absurd z_w (Nat.not_lt_zero j_w)⟩⟩ h_w rfl
      · obtain ⟨i_w, i1_w, i2_w, i3_w⟩ := hI
        obtain ⟨x, y⟩ := s
        have i2_w : y = Int32.ofNat i_w := i2_w
        have hs : d_X10_hasRing_l14b 82 x y e_w = some (.inl s') := hs
        rw [i2_w] at hs
        by_cases c_w : i_w < E_w
        · obtain ⟨x', r1_w, r2⟩ := step_w i_w x _ c_w i3_w hs
          have r1_w := Sum.inl.inj r1_w
          rw [r1_w]
          exact ⟨i_w + 1, by omega, rfl, r2⟩
        · unfold d_X10_hasRing_l14b at hs
          rw [k1_w.1, g1.1, mk_i (by omega), if_pos (show (E_w : Int) ≤ i_w by omega)] at hs
          cases hs
      · intro hu
        obtain ⟨i_w, i1_w, i2_w, i3_w⟩ := hI
        obtain ⟨x, y⟩ := s
        have i2_w : y = Int32.ofNat i_w := i2_w
        have i3_w : (x = 0 ∧ ∀ j_w, j_w < i_w → wyw e_w j_w j_w < 0) ∨ (x = 1 ∧ ∃ j_w, j_w < E_w ∧ 0 ≤ wyw e_w j_w j_w) := i3_w
        have hs : d_X10_hasRing_l14b 82 x y e_w = some (.inr u_w) := hs
        rw [i2_w] at hs
        by_cases c_w : i_w < E_w
        · obtain ⟨x', r1_w, r2⟩ := step_w i_w x _ c_w i3_w hs
          cases r1_w
        · unfold d_X10_hasRing_l14b at hs
          rw [k1_w.1, g1.1, mk_i (by omega), if_pos (show (E_w : Int) ≤ i_w by omega)] at hs
          have hs : (x, e_w) = u_w := Sum.inr.inj (Option.some.inj hs)
          have r_w := Prod.mk.inj (hu.trans hs.symm)
          have ie : i_w = E_w := by omega
          rw [ie] at i3_w
          rw [r_w.1, r_w.2]
          exact ⟨rfl, i3_w⟩
    obtain ⟨r1_w, r2⟩ := res
    rw [r1_w] at k1_w k2_w k3_w r2
    refine ⟨k1_w, ?_⟩
    rcases r2 with ⟨r2, r3⟩ | ⟨r2, j_w, r3, r4⟩
    · refine Or.inr ⟨r2, fun f_w l hf ln lc => ?_⟩
      have w_w := (k3_w (fun a_w ha_w => Int.le_of_lt (r3 a_w ha_w)) f_w f_w l hf hf ln lc).2
      have := r3 f_w hf
      omega
    · refine Or.inl ⟨r2, j_w, ?_⟩
      rcases k2_w j_w j_w r3 r3 with w_w | ⟨l, w1_w, w2_w, w3_w⟩
      · omega
      · exact ⟨l, r3, w1_w, w2_w, by omega⟩
