/-! ===== the reference's search for the best ring ===== -/
def RGx (E_w P_w : Nat) (fr_w to_w : Nat → Nat) (tok : Nat → Bool) (dl : Nat → Int) (U_w T : Int) : Prop := ∃ e_w l, e_w < E_w ∧ l ≠ [] ∧ chw P_w fr_w to_w e_w l e_w ∧ 0 ≤ wgw fr_w tok dl T U_w l
theorem RGx.mn {E_w P_w : Nat} {fr_w to_w : Nat → Nat} {tok : Nat → Bool} {dl : Nat → Int} {U_w U' T : Int} (h_w : RGx E_w P_w fr_w to_w tok dl U_w T) (hu : U' ≤ U_w) : RGx E_w P_w fr_w to_w tok dl U' T := by
  obtain ⟨e_w, l, h1, h2, h3, h4⟩ := h_w
  refine ⟨e_w, l, h1, h2, h3, ?_⟩
  unfold wgw at h4 ⊢
  have := Int.mul_le_mul_of_nonneg_right hu (show (0 : Int) ≤ (tkw tok l : Int) by omega)
  omega
/-- the best so far, ahead of t_w -/
def UDx (E_w P_w : Nat) (fr_w to_w : Nat → Nat) (tok : Nat → Bool) (dl : Nat → Int) (t_w up_w down_w : Int) : Prop := (0 ≤ up_w ∧ up_w ≤ 320) ∧ (1 ≤ down_w ∧ down_w ≤ 16) ∧ (up_w = 0 ∨ RGx E_w P_w fr_w to_w tok dl up_w down_w) ∧ ∀ t' U', 1 ≤ t' → t' < t_w → 0 ≤ U' → U' ≤ 320 → RGx E_w P_w fr_w to_w tok dl U' t' → U' * down_w ≤ up_w * t'
theorem bs_w {E_w P_w : Nat} {fr_w to_w : Nat → Nat} {tok : Nat → Bool} {dl : Nat → Int} {m_w : dc_M} {x1_w up_w down_w : Int32} {t_w : Nat} {u_w : (Int32 × Int32 × Int32 × dc_M) ⊕ (Int32 × dc_M)} (G : RGw E_w P_w fr_w to_w tok dl m_w) (ht : 1 ≤ t_w ∧ t_w ≤ 16) (B_w : UDx E_w P_w fr_w to_w tok dl t_w up_w.toInt down_w.toInt) (h_w : d_X10_beat_l58 82 x1_w up_w down_w (Int32.ofNat t_w) 0 321 m_w = some u_w) : ∃ up' down' m', u_w = .inl (up', down', Int32.ofNat (t_w + 1), m') ∧ kww m_w m' ∧ UDx E_w P_w fr_w to_w tok dl (t_w + 1) up'.toInt down'.toInt := by
  have tt : (Int32.ofNat t_w).toInt = t_w := mk_i (by omega)
  have t1_w : Int32.ofNat t_w + 1 = Int32.ofNat (t_w + 1) := on_1 (by omega)
  have tr_w : ∀ zm : dc_M, kww m_w zm → RGw E_w P_w fr_w to_w tok dl zm := fun zm k_w => G.eqw (fun y_w _ _ => by rw [k_w.1])
  unfold d_X10_beat_l58 at h_w
  have mid_w : ∀ x5_w x6 : Int32, 0 ≤ x5_w.toInt → x5_w.toInt < x6.toInt → x6.toInt ≤ 321 → ((x5_w + x6) / 2).toInt = (x5_w.toInt + x6.toInt) / 2 := fun x5_w x6 h1 h2 h3 => by
    have s : (x5_w + x6).toInt = x5_w.toInt + x6.toInt := by rw [Int32.toInt_add, sx_bm (by omega) (by omega)]
    obtain ⟨A_w, hA⟩ : ∃ A_w : Nat, (A_w : Int) = x5_w.toInt + x6.toInt := ⟨(x5_w.toInt + x6.toInt).toNat, by omega⟩
    have q_w := @qu_w (x5_w + x6) 2 A_w 2 (by rw [s, hA]) rfl (by omega) (by decide)
    rw [q_w, ← hA]
    omega
  refine dc_lp_inv (s := ((0 : Int32), (321 : Int32), m_w)) (fun s : Int32 × Int32 × dc_M => (0 ≤ s.1.toInt ∧ s.1.toInt < s.2.1.toInt ∧ s.2.1.toInt ≤ 321) ∧ kww m_w s.2.2 ∧ (s.1.toInt = 0 ∨ RGx E_w P_w fr_w to_w tok dl s.1.toInt t_w) ∧ (s.2.1.toInt = 321 ∨ ¬ RGx E_w P_w fr_w to_w tok dl s.2.1.toInt t_w)) (fun u_w : (Int32 × Int32 × Int32 × dc_M) ⊕ (Int32 × dc_M) => ∃ up' down' m', u_w = .inl (up', down', Int32.ofNat (t_w + 1), m') ∧ kww m_w m' ∧ UDx E_w P_w fr_w to_w tok dl (t_w + 1) up'.toInt down'.toInt) (fun s s' hI hs => ?_) (fun s u_w hI hs => ?_) ⟨show 0 ≤ (0 : Int32).toInt ∧ (0 : Int32).toInt < (321 : Int32).toInt ∧ (321 : Int32).toInt ≤ 321 by decide, ⟨rfl, rfl⟩, Or.inl rfl, Or.inl rfl⟩ h_w
  · obtain ⟨⟨i1_w, i2_w, i3_w⟩, i4_w, i5_w, i6_w⟩ := hI
    obtain ⟨x5_w, x6, zm⟩ := s
    have i1_w : 0 ≤ x5_w.toInt := i1_w
    have i2_w : x5_w.toInt < x6.toInt := i2_w
    have i3_w : x6.toInt ≤ 321 := i3_w
    have i4_w : kww m_w zm := i4_w
    have hs : d_X10_beat_l58b 82 x1_w up_w down_w (Int32.ofNat t_w) x5_w x6 zm = some (.inl s') := hs
    have df : (x6 - x5_w).toInt = x6.toInt - x5_w.toInt := by rw [Int32.toInt_sub, sx_bm (by omega) (by omega)]
    have md := mid_w x5_w x6 i1_w i2_w i3_w
    unfold d_X10_beat_l58b at hs
    rw [df] at hs
    by_cases c_w : x6.toInt - x5_w.toInt ≤ 1
    · rw [if_pos c_w] at hs
      generalize d_X10_beat_b101 82 x1_w up_w down_w (Int32.ofNat t_w) x5_w zm = o at hs
      cases o with
      | none => cases hs
      | some o => cases hs
    · rw [if_neg c_w] at hs
      cases hq : d_X10_hasRing 82 ((x5_w + x6) / 2) (Int32.ofNat t_w) zm with
      | none => rw [hq] at hs; cases hs
      | some q_w =>
        obtain ⟨qv, qm⟩ := q_w
        rw [hq, Option.bind_some] at hs
        obtain ⟨k1_w, k2_w⟩ := hr_w (tr_w zm i4_w) tt rfl ⟨by omega, by omega⟩ ⟨by rw [md]; omega, by rw [md]; omega⟩ hq
        have kk : kww m_w qm := ⟨k1_w.1.trans i4_w.1, k1_w.2.trans i4_w.2⟩
        rcases k2_w with ⟨k2_w, k3_w⟩ | ⟨k2_w, k3_w⟩
        · have k2_w : qv = 1 := k2_w
          rw [k2_w, if_neg (show ¬ (1 : Int32).toInt = 0 by decide)] at hs
          have hs := Sum.inl.inj (Option.some.inj hs)
          rw [← hs]
          exact ⟨⟨by show 0 ≤ ((x5_w + x6) / 2).toInt; rw [md]; omega, by show ((x5_w + x6) / 2).toInt < x6.toInt; rw [md]; omega, i3_w⟩, kk, Or.inr k3_w, i6_w⟩
        · have k2_w : qv = 0 := k2_w
          rw [k2_w, if_pos (show (0 : Int32).toInt = 0 from rfl)] at hs
          have hs := Sum.inl.inj (Option.some.inj hs)
          rw [← hs]
          refine ⟨⟨i1_w, by show x5_w.toInt < ((x5_w + x6) / 2).toInt; rw [md]; omega, by show ((x5_w + x6) / 2).toInt ≤ 321; rw [md]; omega⟩, kk, i5_w, Or.inr (fun ⟨e_w, l, y1, y2, y3, y4⟩ => ?_)⟩
          have y4 : 0 ≤ wgw fr_w tok dl t_w ((x5_w + x6) / 2).toInt l := y4
          have := k3_w e_w l y1 y2 y3
          omega
  · obtain ⟨⟨i1_w, i2_w, i3_w⟩, i4_w, i5_w, i6_w⟩ := hI
    obtain ⟨x5_w, x6, zm⟩ := s
    have i1_w : 0 ≤ x5_w.toInt := i1_w
    have i2_w : x5_w.toInt < x6.toInt := i2_w
    have i3_w : x6.toInt ≤ 321 := i3_w
    have i4_w : kww m_w zm := i4_w
    have i5_w : x5_w.toInt = 0 ∨ RGx E_w P_w fr_w to_w tok dl x5_w.toInt t_w := i5_w
    have i6_w : x6.toInt = 321 ∨ ¬ RGx E_w P_w fr_w to_w tok dl x6.toInt t_w := i6_w
    have hs : d_X10_beat_l58b 82 x1_w up_w down_w (Int32.ofNat t_w) x5_w x6 zm = some (.inr u_w) := hs
    have df : (x6 - x5_w).toInt = x6.toInt - x5_w.toInt := by rw [Int32.toInt_sub, sx_bm (by omega) (by omega)]
    unfold d_X10_beat_l58b at hs
    rw [df] at hs
    by_cases c_w : x6.toInt - x5_w.toInt ≤ 1
    · rw [if_pos c_w] at hs
      obtain ⟨b1, b2, b3, b4⟩ := B_w
      have top_w : ∀ U', 0 ≤ U' → U' ≤ 320 → RGx E_w P_w fr_w to_w tok dl U' t_w → U' ≤ x5_w.toInt := fun U' u1_w u2_w u3 => by
        refine Int.not_lt.mp (fun z_w => ?_)
        rcases i6_w with w_w | w_w
        · omega
        · exact w_w (u3.mn (by omega))
      have q1_w : 0 ≤ x5_w.toInt * down_w.toInt ∧ x5_w.toInt * down_w.toInt ≤ 5120 := ⟨Int.mul_nonneg i1_w (by omega), Int.le_trans (Int.mul_le_mul (show x5_w.toInt ≤ 320 by omega) b2.2 (by omega) (by decide)) (by decide)⟩
      have q2_w : 0 ≤ up_w.toInt * (t_w : Int) ∧ up_w.toInt * (t_w : Int) ≤ 5120 := ⟨Int.mul_nonneg b1.1 (by omega), Int.le_trans (Int.mul_le_mul b1.2 (show (t_w : Int) ≤ 16 by omega) (by omega) (by decide)) (by decide)⟩
      have e1_w : (x5_w * down_w).toInt = x5_w.toInt * down_w.toInt := by rw [Int32.toInt_mul, sx_bm (by omega) (by omega)]
      have e2_w : (up_w * Int32.ofNat t_w).toInt = up_w.toInt * t_w := by rw [Int32.toInt_mul, tt, sx_bm (by omega) (by omega)]
      unfold d_X10_beat_b101 at hs
      rw [e1_w, e2_w, t1_w] at hs
      by_cases c2_w : x5_w.toInt * down_w.toInt ≤ up_w.toInt * t_w
      · rw [if_pos c2_w] at hs
        refine ⟨up_w, down_w, zm, (Sum.inr.inj (Option.some.inj hs)).symm, i4_w, b1, b2, b3, fun t' U' u1_w u2_w u3 u4_w u5 => ?_⟩
        by_cases z_w : t' = t_w
        · rw [z_w] at u5 ⊢
          exact Int.le_trans (Int.mul_le_mul_of_nonneg_right (top_w U' u3 u4_w u5) (by omega)) c2_w
        · exact b4 t' U' u1_w (by omega) u3 u4_w u5
      · rw [if_neg c2_w] at hs
        refine ⟨x5_w, Int32.ofNat t_w, zm, (Sum.inr.inj (Option.some.inj hs)).symm, i4_w, ⟨i1_w, by omega⟩, by rw [tt]; omega, by rw [tt]; exact i5_w, fun t' U' u1_w u2_w u3 u4_w u5 => ?_⟩
        rw [tt]
        by_cases z_w : t' = t_w
        · rw [z_w] at u5 ⊢
          exact Int.mul_le_mul_of_nonneg_right (top_w U' u3 u4_w u5) (by omega)
        · exact Int.le_of_lt (crs_w u1_w (by omega) b2.1 (b4 t' U' u1_w (by omega) u3 u4_w u5) (by omega))
    · rw [if_neg c_w] at hs
      generalize d_X10_hasRing 82 ((x5_w + x6) / 2) (Int32.ofNat t_w) zm = o at hs
      cases o with
      | none => cases hs
      | some o =>
        rw [Option.bind_some] at hs
        split at hs <;> cases hs
