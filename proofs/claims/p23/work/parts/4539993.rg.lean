/-! ===== longest ways: what they begin with ===== -/
def vlw (by_ less_w : Int64) (fr_w : Nat → Nat) (m_w : dc_M) (p_w : Nat) : Int := (m_w.1 90 (fr_w p_w)).toInt * by_.toInt - (if b32 (m_w.1 82 11) p_w = true then less_w.toInt else 0)
def inw (bare_w : Int32) (m_w : dc_M) (p_w : Nat) : Prop := ¬ (¬ bare_w.toInt = 0 ∧ b32 (m_w.1 82 11) p_w = true)
theorem a1_v {x : Int32} : (x &&& 1).toInt = 0 ∨ (x &&& 1).toInt = 1 := by
  have h_w : (x &&& 1).toBitVec.toNat ≤ 1 := by
    rw [Int32.toBitVec_and, BitVec.toNat_and]
    exact Nat.le_trans Nat.and_le_right (by decide)
  have e : (x &&& 1).toInt = ((x &&& 1).toBitVec.toNat : Int) := by
    show (x &&& 1).toBitVec.toInt = _
    rw [BitVec.toInt_eq_toNat_of_lt (by omega)]
  omega
theorem b32_tw {x e : Int32} (h_w : 0 ≤ e.toInt ∧ e.toInt < 32) : ((x >>> (e &&& 31)) &&& 1).toInt = 1 ↔ b32 x e.toNatClampNeg = true := by
  have o := a1_v (x := x >>> (e &&& 31))
  have t_w := b32_t (x := x) h_w
  constructor
  · intro q_w
    refine eq_true_of_ne_false (fun r_w => ?_)
    have := t_w.mpr r_w
    omega
  · intro q_w
    rcases o with o | o
    · have := t_w.mp o
      rw [q_w] at this
      cases this
    · exact o
theorem b123_w {by_ less_w : Int64} {bare_w x6 : Int32} {k_w : Nat} {x9 : Int64} {m_w : dc_M} {r_w : (Int32 × dc_M) ⊕ dc_M} (hk : k_w < 256) (h_w : d_X10_layWays_b123 82 by_ less_w bare_w x6 (Int32.ofNat k_w) x9 (Int32.ofNat k_w) 110 m_w = some r_w) : ∃ m', r_w = .inl (x6 + 1, m') ∧ kww m_w m' ∧ (∀ j_w, j_w ≠ k_w → m'.2.1 110 j_w = m_w.2.1 110 j_w) ∧ (m'.2.1 110 k_w).toInt = if (m_w.2.1 110 k_w).toInt < x9.toInt then x9.toInt else (m_w.2.1 110 k_w).toInt := by
  unfold d_X10_layWays_b123 at h_w
  have kn_w : (Int32.ofNat k_w).toNatClampNeg = k_w := on_n (by omega)
  rw [kn_w, show 82 + 28 = 110 from rfl] at h_w
  have lg := di_gt (x := x9) (y := m_w.2.1 110 k_w)
  by_cases c2_w : (lg_cmp x9 (m_w.2.1 110 k_w)).toInt ≤ 0
  · rw [if_pos c2_w] at h_w
    refine ⟨_, (Option.some.inj h_w).symm, ⟨rfl, rfl⟩, fun j_w hj => wlx_k (by omega), ?_⟩
    rw [wlx_s, if_neg (fun q_w => by have := lg.mpr q_w; omega)]
  · rw [if_neg c2_w] at h_w
    refine ⟨_, (Option.some.inj h_w).symm, ⟨rfl, rfl⟩, fun j_w hj => wlx_k (by omega), ?_⟩
    rw [wlx_s, if_pos (lg.mp (by omega))]
theorem l64_mul {x y : Int64} (h_w : -9000000000000000000 ≤ x.toInt * y.toInt ∧ x.toInt * y.toInt ≤ 9000000000000000000) : (x * y).toInt = x.toInt * y.toInt := by rw [Int64.toInt_mul, sx_bm64 (by omega) (by omega)]
theorem l64_sub {x y : Int64} (h_w : -9000000000000000000 ≤ x.toInt - y.toInt ∧ x.toInt - y.toInt ≤ 9000000000000000000) : (x - y).toInt = x.toInt - y.toInt := by rw [Int64.toInt_sub, sx_bm64 (by omega) (by omega)]
/-- one place -/
theorem l30b_w {E_w P_w p_w : Nat} {by_ less_w : Int64} {bare_w : Int32} {fr_w to_w : Nat → Nat} {m_w zm : dc_M} {r_w : (Int32 × dc_M) ⊕ dc_M} (h16_w : E_w ≤ 16) (hP : (m_w.1 82 10).toInt = P_w) (P20 : P_w ≤ 20) (hp : p_w < P_w) (hfr : ∀ p_w, p_w < P_w → m_w.1 111 p_w = Int32.ofNat (fr_w p_w) ∧ fr_w p_w < E_w) (hto : ∀ p_w, p_w < P_w → m_w.1 112 p_w = Int32.ofNat (to_w p_w) ∧ to_w p_w < E_w) (hd_w : ∀ e, e < E_w → 0 ≤ (m_w.1 90 e).toInt ∧ (m_w.1 90 e).toInt ≤ 20) (hby : 0 ≤ by_.toInt ∧ by_.toInt ≤ 16) (hl : 0 ≤ less_w.toInt ∧ less_w.toInt ≤ 321) (K_w : kww m_w zm) (h_w : d_X10_layWays_l30b 82 by_ less_w bare_w (Int32.ofNat p_w) zm = some r_w) : ∃ m', r_w = .inl (Int32.ofNat p_w + 1, m') ∧ kww zm m' ∧ (∀ j_w, j_w ≠ 16 * fr_w p_w + to_w p_w → m'.2.1 110 j_w = zm.2.1 110 j_w) ∧ (wyw m' (fr_w p_w) (to_w p_w) = wyw zm (fr_w p_w) (to_w p_w) ∨ (inw bare_w m_w p_w ∧ wyw m' (fr_w p_w) (to_w p_w) = vlw by_ less_w fr_w m_w p_w)) ∧ (inw bare_w m_w p_w → vlw by_ less_w fr_w m_w p_w ≤ wyw m' (fr_w p_w) (to_w p_w)) ∧ wyw zm (fr_w p_w) (to_w p_w) ≤ wyw m' (fr_w p_w) (to_w p_w) := by
  unfold d_X10_layWays_l30b at h_w
  obtain ⟨f1_w, f2_w⟩ := hfr p_w hp
  obtain ⟨t1_w, t2_w⟩ := hto p_w hp
  have pt : (Int32.ofNat p_w).toInt = p_w := mk_i (by omega)
  have pn : (Int32.ofNat p_w).toNatClampNeg = p_w := on_n (by omega)
  have ix : (16 : Int32) * Int32.ofNat (fr_w p_w) + Int32.ofNat (to_w p_w) = Int32.ofNat (16 * fr_w p_w + to_w p_w) := by
    have a1_w : ((16 : Int32) * Int32.ofNat (fr_w p_w)).toInt = 16 * (fr_w p_w : Int) := by rw [Int32.toInt_mul, mk_i (by omega), show (16 : Int32).toInt = 16 from rfl, sx_bm (by omega) (by omega)]
    refine Int32.toInt_inj.mp ?_
    rw [Int32.toInt_add, a1_w, mk_i (by omega), mk_i (by omega), sx_bm (by omega) (by omega)]
    omega
  have bt_w := b32_tw (x := m_w.1 82 11) (e := Int32.ofNat p_w) ⟨by omega, by omega⟩
  rw [pn] at bt_w
  rw [K_w.1, hP, pt, if_neg (show ¬ (P_w : Int) ≤ p_w by omega), pn, show 82 + 29 = 111 from rfl, show 82 + 30 = 112 from rfl, f1_w, t1_w, ix] at h_w
  have k256 : 16 * fr_w p_w + to_w p_w < 256 := by omega
  have dv := hd_w (fr_w p_w) f2_w
  have fn_w : (Int32.ofNat (fr_w p_w)).toNatClampNeg = fr_w p_w := on_n (by omega)
  have pr : 0 ≤ (m_w.1 90 (fr_w p_w)).toInt * by_.toInt ∧ (m_w.1 90 (fr_w p_w)).toInt * by_.toInt ≤ 320 := by
    constructor
    · exact Int.mul_nonneg dv.1 hby.1
    · exact Int.le_trans (Int.mul_le_mul dv.2 hby.2 hby.1 (by decide)) (by decide)
  have eD : (Int32.toInt64 (m_w.1 90 (fr_w p_w)) * by_).toInt = (m_w.1 90 (fr_w p_w)).toInt * by_.toInt := by
    rw [l64_mul (by rw [di_il]; omega), di_il]
  -- the value written
  have wr_w : ∀ x9 : Int64, inw bare_w m_w p_w → x9.toInt = vlw by_ less_w fr_w m_w p_w → d_X10_layWays_b123 82 by_ less_w bare_w (Int32.ofNat p_w) (Int32.ofNat (16 * fr_w p_w + to_w p_w)) x9 (Int32.ofNat (16 * fr_w p_w + to_w p_w)) 110 zm = some r_w → ∃ m', r_w = .inl (Int32.ofNat p_w + 1, m') ∧ kww zm m' ∧ (∀ j_w, j_w ≠ 16 * fr_w p_w + to_w p_w → m'.2.1 110 j_w = zm.2.1 110 j_w) ∧ (wyw m' (fr_w p_w) (to_w p_w) = wyw zm (fr_w p_w) (to_w p_w) ∨ (inw bare_w m_w p_w ∧ wyw m' (fr_w p_w) (to_w p_w) = vlw by_ less_w fr_w m_w p_w)) ∧ (inw bare_w m_w p_w → vlw by_ less_w fr_w m_w p_w ≤ wyw m' (fr_w p_w) (to_w p_w)) ∧ wyw zm (fr_w p_w) (to_w p_w) ≤ wyw m' (fr_w p_w) (to_w p_w) := fun x9 hi_w hv hz => by
    obtain ⟨m', r1_w, r2, r3, r4⟩ := b123_w k256 hz
    have r4 : wyw m' (fr_w p_w) (to_w p_w) = if wyw zm (fr_w p_w) (to_w p_w) < x9.toInt then x9.toInt else wyw zm (fr_w p_w) (to_w p_w) := r4
    rw [hv] at r4
    refine ⟨m', r1_w, r2, r3, ?_, fun _ => ?_, ?_⟩
    · rw [r4]
      split
      · exact Or.inr ⟨hi_w, rfl⟩
      · exact Or.inl rfl
    · rw [r4]
      split <;> omega
    · rw [r4]
      split <;> omega
  by_cases hb_w : b32 (m_w.1 82 11) p_w = true
  · rw [if_neg (show ¬ ¬ ((m_w.1 82 11 >>> (Int32.ofNat p_w &&& 31)) &&& 1).toInt = 1 from fun q_w => q_w (bt_w.mpr hb_w))] at h_w
    unfold d_X10_layWays_b77 at h_w
    rw [if_neg (show ¬ (1 : Int32).toInt = 0 by decide), K_w.1, show 82 + 29 = 111 from rfl, pn, f1_w, fn_w, show 82 + 8 = 90 from rfl] at h_w
    unfold d_X10_layWays_b104 at h_w
    rw [show 82 + 28 = 110 from rfl] at h_w
    by_cases c_w : bare_w.toInt = 0
    · rw [if_pos c_w] at h_w
      refine wr_w _ (fun q_w => q_w.1 c_w) ?_ h_w
      unfold vlw
      rw [l64_sub (by rw [eD]; omega), eD, if_pos hb_w]
    · rw [if_neg c_w, if_pos (show ¬ (1 : Int32).toInt = 0 by decide)] at h_w
      have kn_w : (Int32.ofNat (16 * fr_w p_w + to_w p_w)).toNatClampNeg = 16 * fr_w p_w + to_w p_w := on_n (by omega)
      rw [kn_w] at h_w
      refine ⟨_, (Option.some.inj h_w).symm, ⟨rfl, rfl⟩, fun j_w hj => wlx_k (by omega), Or.inl ?_, fun q_w => absurd ⟨c_w, hb_w⟩ q_w, ?_⟩
      · unfold wyw
        rw [wlx_s]
      · unfold wyw
        rw [wlx_s]
        exact Int.le_refl _
  · have hb0 : b32 (m_w.1 82 11) p_w = false := eq_false_of_ne_true hb_w
    rw [if_pos (show ¬ ((m_w.1 82 11 >>> (Int32.ofNat p_w &&& 31)) &&& 1).toInt = 1 from fun q_w => hb_w (bt_w.mp q_w))] at h_w
    unfold d_X10_layWays_b77 at h_w
    rw [if_pos (show (0 : Int32).toInt = 0 from rfl), K_w.1, show 82 + 29 = 111 from rfl, pn, f1_w, fn_w, show 82 + 8 = 90 from rfl] at h_w
    unfold d_X10_layWays_b104 at h_w
    rw [show 82 + 28 = 110 from rfl] at h_w
    have v_w : (Int32.toInt64 (m_w.1 90 (fr_w p_w)) * by_ - 0).toInt = vlw by_ less_w fr_w m_w p_w := by
      unfold vlw
      rw [l64_sub (by rw [eD, show (0 : Int64).toInt = 0 from rfl]; omega), eD, if_neg hb_w, show (0 : Int64).toInt = 0 from rfl]
    by_cases c_w : bare_w.toInt = 0
    · rw [if_pos c_w] at h_w
      exact wr_w _ (fun q_w => q_w.1 c_w) v_w h_w
    · rw [if_neg c_w, if_neg (show ¬ ¬ (0 : Int32).toInt = 0 from fun q_w => q_w rfl)] at h_w
      exact wr_w _ (fun q_w => hb_w q_w.2) v_w h_w
theorem lwy_run {WT : Nat → Nat → Int → Prop} {E_w P_w : Nat} {by_ less_w : Int64} {bare_w : Int32} {fr_w to_w : Nat → Nat} {m_w e : dc_M} (hT_w : ∀ a_w k_w b_w u v_w, WT a_w k_w u → WT k_w b_w v_w → WT a_w b_w (u + v_w)) (hE : (m_w.1 82 3).toInt = E_w) (h16_w : E_w ≤ 16) (hP : (m_w.1 82 10).toInt = P_w) (P20 : P_w ≤ 20) (hfr : ∀ p_w, p_w < P_w → m_w.1 111 p_w = Int32.ofNat (fr_w p_w) ∧ fr_w p_w < E_w) (hto : ∀ p_w, p_w < P_w → m_w.1 112 p_w = Int32.ofNat (to_w p_w) ∧ to_w p_w < E_w) (hd_w : ∀ e, e < E_w → 0 ≤ (m_w.1 90 e).toInt ∧ (m_w.1 90 e).toInt ≤ 20) (hby : 0 ≤ by_.toInt ∧ by_.toInt ≤ 16) (hl : 0 ≤ less_w.toInt ∧ less_w.toInt ≤ 321) (base_w : ∀ p_w, p_w < P_w → inw bare_w m_w p_w → WT (fr_w p_w) (to_w p_w) (vlw by_ less_w fr_w m_w p_w)) (h_w : d_X10_layWays 82 by_ less_w bare_w m_w = some e) : MRw WT E_w (UBw E_w) (LBw E_w) (wyw e) ∧ CLw E_w E_w (wyw e) ∧ (∀ p_w, p_w < P_w → inw bare_w m_w p_w → vlw by_ less_w fr_w m_w p_w ≤ wyw e (fr_w p_w) (to_w p_w)) ∧ kww m_w e := by
  have hF : FRW = -1000000000000 := rfl
  have vb : ∀ p_w, p_w < P_w → -321 ≤ vlw by_ less_w fr_w m_w p_w ∧ vlw by_ less_w fr_w m_w p_w ≤ 320 := fun p_w hp => by
    have dv := hd_w (fr_w p_w) (hfr p_w hp).2
    have p1_w := Int.mul_nonneg dv.1 hby.1
    have p2_w : (m_w.1 90 (fr_w p_w)).toInt * by_.toInt ≤ 320 := Int.le_trans (Int.mul_le_mul dv.2 hby.2 hby.1 (by decide)) (by decide)
    unfold vlw
    split <;> omega
  -- from the places on
  have pl : ∀ (m1_w e : dc_M), kww m_w m1_w → (∀ k_w, k_w < 256 → (m1_w.2.1 110 k_w).toInt = FRW) → d_X10_layWays_l30 82 by_ less_w bare_w 0 m1_w = some e → MRw WT E_w (UBw E_w) (LBw E_w) (wyw e) ∧ CLw E_w E_w (wyw e) ∧ (∀ p_w, p_w < P_w → inw bare_w m_w p_w → vlw by_ less_w fr_w m_w p_w ≤ wyw e (fr_w p_w) (to_w p_w)) ∧ kww m_w e := fun m1_w e K1 hw h_w => by
    unfold d_X10_layWays_l30 at h_w
    refine dc_lp_inv (s := ((0 : Int32), m1_w)) (fun z_w : Int32 × dc_M => ∃ p_w : Nat, p_w ≤ P_w ∧ z_w.1 = Int32.ofNat p_w ∧ kww m_w z_w.2 ∧ MRw WT E_w 400 400 (wyw z_w.2) ∧ ∀ p', p' < p_w → inw bare_w m_w p' → vlw by_ less_w fr_w m_w p' ≤ wyw z_w.2 (fr_w p') (to_w p')) (fun e : dc_M => MRw WT E_w (UBw E_w) (LBw E_w) (wyw e) ∧ CLw E_w E_w (wyw e) ∧ (∀ p_w, p_w < P_w → inw bare_w m_w p_w → vlw by_ less_w fr_w m_w p_w ≤ wyw e (fr_w p_w) (to_w p_w)) ∧ kww m_w e) (fun z_w z' hI hz => ?_) (fun z_w e hI hz => ?_) ⟨0, Nat.zero_le _, rfl, K1, fun a_w b_w h1 h2 => Or.inl (hw (16 * a_w + b_w) (by omega)), fun p' hp => absurd hp (Nat.not_lt_zero p')⟩ h_w
    · obtain ⟨p_w, b1, b2, b3, b4, b5⟩ := hI
      obtain ⟨x6, zm⟩ := z_w
      have b2 : x6 = Int32.ofNat p_w := b2
      have b3 : kww m_w zm := b3
      have b4 : MRw WT E_w 400 400 (wyw zm) := b4
      have b5 : ∀ p', p' < p_w → inw bare_w m_w p' → vlw by_ less_w fr_w m_w p' ≤ wyw zm (fr_w p') (to_w p') := b5
      have hz : d_X10_layWays_l30b 82 by_ less_w bare_w x6 zm = some (.inl z') := hz
      rw [b2] at hz
      by_cases c_w : p_w < P_w
      · obtain ⟨m', r1_w, r2, r3, r4, r5_w, r6⟩ := l30b_w h16_w hP P20 c_w hfr hto hd_w hby hl b3 hz
        have r1_w := Sum.inl.inj r1_w
        rw [r1_w]
        have f2_w := (hfr p_w c_w).2
        have t2_w := (hto p_w c_w).2
        have oth : ∀ a_w b_w, a_w < E_w → b_w < E_w → ¬ (a_w = fr_w p_w ∧ b_w = to_w p_w) → wyw m' a_w b_w = wyw zm a_w b_w := fun a_w b_w h1 h2 h3 => by
          unfold wyw
          rw [r3 _ (by omega)]
        refine ⟨p_w + 1, by omega, on_1 (by omega), ⟨r2.1.trans b3.1, r2.2.trans b3.2⟩, fun a_w b_w h1 h2 => ?_, fun p' hp hi_w => ?_⟩
        · by_cases q_w : a_w = fr_w p_w ∧ b_w = to_w p_w
          · rw [q_w.1, q_w.2]
            rcases r4 with r4 | ⟨r4, r7⟩
            · show wyw m' (fr_w p_w) (to_w p_w) = FRW ∨ (-400 ≤ wyw m' (fr_w p_w) (to_w p_w) ∧ wyw m' (fr_w p_w) (to_w p_w) ≤ 400 ∧ WT (fr_w p_w) (to_w p_w) (wyw m' (fr_w p_w) (to_w p_w)))
              rw [r4]
              exact b4 _ _ f2_w t2_w
            · show wyw m' (fr_w p_w) (to_w p_w) = FRW ∨ (-400 ≤ wyw m' (fr_w p_w) (to_w p_w) ∧ wyw m' (fr_w p_w) (to_w p_w) ≤ 400 ∧ WT (fr_w p_w) (to_w p_w) (wyw m' (fr_w p_w) (to_w p_w)))
              rw [r7]
              have := vb p_w c_w
              exact Or.inr ⟨by omega, by omega, base_w p_w c_w r4⟩
          · show wyw m' a_w b_w = FRW ∨ (-400 ≤ wyw m' a_w b_w ∧ wyw m' a_w b_w ≤ 400 ∧ WT a_w b_w (wyw m' a_w b_w))
            rw [oth a_w b_w h1 h2 q_w]
            exact b4 a_w b_w h1 h2
        · show vlw by_ less_w fr_w m_w p' ≤ wyw m' (fr_w p') (to_w p')
          by_cases e : p' = p_w
          · rw [e] at hi_w ⊢
            exact r5_w hi_w
          · have o := b5 p' (by omega) hi_w
            by_cases q_w : fr_w p' = fr_w p_w ∧ to_w p' = to_w p_w
            · rw [q_w.1, q_w.2] at o ⊢
              omega
            · rw [oth _ _ (hfr p' (by omega)).2 (hto p' (by omega)).2 q_w]
              exact o
      · unfold d_X10_layWays_l30b at hz
        rw [b3.1, hP, mk_i (show p_w < 2147483648 by omega), if_pos (show (P_w : Int) ≤ p_w by omega)] at hz
        generalize d_X10_layWays_l158 82 0 zm = o at hz
        cases o with
        | none => cases hz
        | some q_w => cases hz
    · obtain ⟨p_w, b1, b2, b3, b4, b5⟩ := hI
      obtain ⟨x6, zm⟩ := z_w
      have b2 : x6 = Int32.ofNat p_w := b2
      have b3 : kww m_w zm := b3
      have b4 : MRw WT E_w 400 400 (wyw zm) := b4
      have b5 : ∀ p', p' < p_w → inw bare_w m_w p' → vlw by_ less_w fr_w m_w p' ≤ wyw zm (fr_w p') (to_w p') := b5
      have hz : d_X10_layWays_l30b 82 by_ less_w bare_w x6 zm = some (.inr e) := hz
      rw [b2] at hz
      by_cases c_w : p_w < P_w
      · obtain ⟨m', r1_w, -⟩ := l30b_w h16_w hP P20 c_w hfr hto hd_w hby hl b3 hz
        cases r1_w
      · unfold d_X10_layWays_l30b at hz
        rw [b3.1, hP, mk_i (show p_w < 2147483648 by omega), if_pos (show (P_w : Int) ≤ p_w by omega)] at hz
        cases hq : d_X10_layWays_l158 82 0 zm with
        | none => rw [hq] at hz; cases hz
        | some q_w =>
          rw [hq] at hz
          have hz := Sum.inr.inj (Option.some.inj hz)
          have hz : q_w = e := hz
          rw [← hz]
          obtain ⟨q1_w, q2_w, q3_w, q4_w⟩ := l158_w hT_w (by rw [b3.1]; exact hE) h16_w b4 hq
          exact ⟨q1_w, q2_w, fun p' hp hi_w => Int.le_trans (b5 p' (by omega) hi_w) (q3_w _ _ (hfr p' hp).2 (hto p' hp).2), ⟨q4_w.1.trans b3.1, q4_w.2.trans b3.2⟩⟩
  unfold d_X10_layWays d_X10_layWays_l3 at h_w
  refine dc_lp_inv (s := ((0 : Int32), m_w)) (fun z_w : Int32 × dc_M => ∃ k_w : Nat, k_w ≤ 256 ∧ z_w.1 = Int32.ofNat k_w ∧ kww m_w z_w.2 ∧ ∀ j_w, j_w < k_w → (z_w.2.2.1 110 j_w).toInt = FRW) (fun e : dc_M => MRw WT E_w (UBw E_w) (LBw E_w) (wyw e) ∧ CLw E_w E_w (wyw e) ∧ (∀ p_w, p_w < P_w → inw bare_w m_w p_w → vlw by_ less_w fr_w m_w p_w ≤ wyw e (fr_w p_w) (to_w p_w)) ∧ kww m_w e) (fun z_w z' hI hz => ?_) (fun z_w e hI hz => ?_) ⟨0, Nat.zero_le _, rfl, ⟨rfl, rfl⟩, fun j_w hj => absurd hj (Nat.not_lt_zero j_w)⟩ h_w
  · obtain ⟨k_w, b1, b2, b3, b4⟩ := hI
    obtain ⟨x6, zm⟩ := z_w
    have b2 : x6 = Int32.ofNat k_w := b2
    have b3 : kww m_w zm := b3
    have b4 : ∀ j_w, j_w < k_w → (zm.2.1 110 j_w).toInt = FRW := b4
    have hz : d_X10_layWays_l3b 82 by_ less_w bare_w x6 zm = some (.inl z') := hz
    unfold d_X10_layWays_l3b at hz
    have xt : x6.toInt = k_w := by rw [b2]; exact mk_i (by omega)
    have xn : x6.toNatClampNeg = k_w := by rw [b2]; exact on_n (by omega)
    rw [xt, xn, show 82 + 28 = 110 from rfl] at hz
    by_cases c_w : (256 : Int) ≤ k_w
    · rw [if_pos c_w] at hz
      generalize d_X10_layWays_l30 82 by_ less_w bare_w 0 zm = o at hz
      cases o with
      | none => cases hz
      | some q_w => cases hz
    · rw [if_neg c_w] at hz
      have hz := Sum.inl.inj (Option.some.inj hz)
      rw [← hz]
      refine ⟨k_w + 1, by omega, by show x6 + 1 = _; rw [b2]; exact on_1 (by omega), ⟨b3.1, b3.2⟩, fun j_w hj => ?_⟩
      show ((dc_wl zm 110 k_w (-1000000000000)).2.1 110 j_w).toInt = FRW
      by_cases ej : j_w = k_w
      · rw [ej, wlx_s]
        rfl
      · rw [wlx_k (by omega)]
        exact b4 j_w (by omega)
  · obtain ⟨k_w, b1, b2, b3, b4⟩ := hI
    obtain ⟨x6, zm⟩ := z_w
    have b2 : x6 = Int32.ofNat k_w := b2
    have b3 : kww m_w zm := b3
    have b4 : ∀ j_w, j_w < k_w → (zm.2.1 110 j_w).toInt = FRW := b4
    have hz : d_X10_layWays_l3b 82 by_ less_w bare_w x6 zm = some (.inr e) := hz
    unfold d_X10_layWays_l3b at hz
    have xt : x6.toInt = k_w := by rw [b2]; exact mk_i (by omega)
    rw [xt] at hz
    by_cases c_w : (256 : Int) ≤ k_w
    · rw [if_pos c_w] at hz
      cases hq : d_X10_layWays_l30 82 by_ less_w bare_w 0 zm with
      | none => rw [hq] at hz; cases hz
      | some q_w =>
        rw [hq] at hz
        have hz := Sum.inr.inj (Option.some.inj hz)
        have hz : q_w = e := hz
        rw [← hz]
        exact pl zm q_w b3 (fun j_w hj => b4 j_w (by omega)) hq
    · rw [if_neg c_w] at hz; cases hz
