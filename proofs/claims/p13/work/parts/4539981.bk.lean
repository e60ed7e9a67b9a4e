/-! ===== taken back: both sides' runs ===== -/
/-- what the class's memory keeps while it looks -/
def ktw (c0_w m_w : dc_M) : Prop := (∀ b_w j_w, ¬ (b_w = 12 ∧ 4 ≤ j_w ∧ j_w ≤ 7) → m_w.1 b_w j_w = c0_w.1 b_w j_w) ∧ m_w.2 = c0_w.2
theorem b63_w {a_w : Nat} {mask rd_w s0_w e0_w x6 : Int32} {M_w : dc_M} {r_w : (Int32 × dc_M) ⊕ dc_M} (h_w : d_X0_addTakenBack_b63 12 a_w mask rd_w s0_w e0_w x6 M_w = some r_w) : ∃ M', r_w = .inl (x6 + 1, M') ∧ M'.1 12 4 = M_w.1 12 4 + 1 ∧ M'.1 12 5 = s0_w ∧ M'.1 12 6 = x6 ∧ M'.1 12 7 = e0_w ∧ ktw M_w M' := by
  unfold d_X0_addTakenBack_b63 at h_w
  refine ⟨_, (Option.some.inj h_w).symm, ?_, ?_, ?_, ?_, fun b_w j_w hb_w => ?_, rfl⟩
  · rw [wi_s, wi_k (by omega), wi_k (by omega), wi_k (by omega)]
  · rw [wi_k (by omega), wi_k (by omega), wi_k (by omega)]; exact wi_s
  · rw [wi_k (by omega), wi_k (by omega)]; exact wi_s
  · rw [wi_k (by omega)]; exact wi_s
  · rw [wi_k (by omega), wi_k (by omega), wi_k (by omega), wi_k (by omega)]
theorem ktw.tw {c0_w m_w M_w : dc_M} (h_w : ktw c0_w m_w) (g_w : ktw m_w M_w) : ktw c0_w M_w := ⟨fun b_w j_w hb_w => (g_w.1 b_w j_w hb_w).trans (h_w.1 b_w j_w hb_w), g_w.2.trans h_w.2⟩
/-- one event that is taken back, all that it ends -/
theorem at_run {a_w E_w s e : Nat} {mask rd_w : Int32} {H_w : Nat → Nat → Nat → Bool} {c0_w m_w m' : dc_M} (ha_w : a_w = 41 ∨ a_w = 52) (hE : (c0_w.1 a_w 1).toInt = E_w) (h16_w : E_w ≤ 16) (hs : s < 200) (he : e < E_w) (hw : ∀ k_w, k_w < E_w → 0 ≤ (c0_w.1 (a_w + 3) k_w).toInt ∧ (c0_w.1 (a_w + 3) k_w).toInt < 32) (hH : ∀ k_w, k_w < E_w → H_w s k_w e = (b32 rd_w k_w && b32 mask (c0_w.1 (a_w + 3) k_w).toNatClampNeg)) (K_w : ktw c0_w m_w) (Q_w : BKc H_w E_w s e 0 m_w) (h_w : d_X0_addTakenBack_l3 12 a_w mask rd_w (Int32.ofNat s) (Int32.ofNat e) 0 m_w = some m') : BKc H_w E_w s (e + 1) 0 m' ∧ ktw c0_w m' := by
  unfold d_X0_addTakenBack_l3 at h_w
  refine dc_lp_inv (s := ((0 : Int32), m_w)) (fun z_w : Int32 × dc_M => ∃ k_w : Nat, k_w ≤ E_w ∧ z_w.1 = Int32.ofNat k_w ∧ BKc H_w E_w s e k_w z_w.2 ∧ ktw c0_w z_w.2) (fun m' : dc_M => BKc H_w E_w s (e + 1) 0 m' ∧ ktw c0_w m') (fun z_w z' hI hz => ?_) (fun z_w m' hI hz => ?_) ⟨0, Nat.zero_le _, rfl, Q_w, K_w⟩ h_w
  · obtain ⟨k_w, k1_w, k2_w, k3, k4⟩ := hI
    obtain ⟨x6, zm⟩ := z_w
    have k2_w : x6 = Int32.ofNat k_w := k2_w
    have k3 : BKc H_w E_w s e k_w zm := k3
    have k4 : ktw c0_w zm := k4
    have hz : d_X0_addTakenBack_l3b 12 a_w mask rd_w (Int32.ofNat s) (Int32.ofNat e) x6 zm = some (.inl z') := hz
    unfold d_X0_addTakenBack_l3b at hz
    have xt : x6.toInt = k_w := by rw [k2_w]; exact mk_i (by omega)
    have xn : x6.toNatClampNeg = k_w := by rw [k2_w]; exact on_n (by omega)
    have nx : x6 + 1 = Int32.ofNat (k_w + 1) := by rw [k2_w]; exact on_1 (by omega)
    rw [k4.1 a_w 1 (by omega), hE, xt, k4.1 (a_w + 3) x6.toNatClampNeg (by omega), xn] at hz
    by_cases c1_w : (E_w : Int) ≤ k_w
    · rw [if_pos c1_w] at hz; cases hz
    · rw [if_neg c1_w] at hz
      have kE : k_w < E_w := by omega
      have w_w := hw k_w kE
      have t1_w := b32_t (x := rd_w) (e := x6) ⟨by omega, by omega⟩
      rw [xn] at t1_w
      have t2_w := b32_t (x := mask) (e := c0_w.1 (a_w + 3) k_w) w_w
      by_cases c2_w : ((rd_w >>> (x6 &&& 31)) &&& 1).toInt = 0
      · rw [if_pos c2_w] at hz
        have hz := Sum.inl.inj (Option.some.inj hz)
        rw [← hz]
        exact ⟨k_w + 1, by omega, nx, k3.now (by rw [hH k_w kE, t1_w.mp c2_w, Bool.false_and]), k4⟩
      · rw [if_neg c2_w] at hz
        by_cases c3_w : ((mask >>> (c0_w.1 (a_w + 3) k_w &&& 31)) &&& 1).toInt = 0
        · rw [if_neg (fun q_w => q_w c3_w)] at hz
          have hz := Sum.inl.inj (Option.some.inj hz)
          rw [← hz]
          exact ⟨k_w + 1, by omega, nx, k3.now (by rw [hH k_w kE, t2_w.mp c3_w, Bool.and_false]), k4⟩
        · rw [if_pos c3_w] at hz
          have hh : H_w s k_w e = true := by rw [hH k_w kE, eq_true_of_ne_false (fun q_w => c2_w (t1_w.mpr q_w)), eq_true_of_ne_false (fun q_w => c3_w (t2_w.mpr q_w))]; rfl
          have bb : k_w < E_w ∧ e < E_w ∧ E_w ≤ 16 ∧ s < 200 := ⟨kE, he, h16_w, hs⟩
          by_cases c4_w : (zm.1 12 4).toInt = 0
          · rw [if_pos c4_w] at hz
            obtain ⟨M', r1_w, r4, r5_w, r6, r7, r8⟩ := b63_w hz
            have r1_w := Sum.inl.inj r1_w
            rw [r1_w]
            exact ⟨k_w + 1, by omega, nx, k3.nww bb hh (Or.inl c4_w) r4 r5_w (r6.trans k2_w) r7, k4.tw r8⟩
          · rw [if_neg c4_w] at hz
            have v4_w : (dc_wi zm 12 4 (zm.1 12 4 + 1)).1 12 4 = zm.1 12 4 + 1 := wi_s
            have v5 : (dc_wi zm 12 4 (zm.1 12 4 + 1)).1 12 5 = zm.1 12 5 := wi_k (by omega)
            have v6 : (dc_wi zm 12 4 (zm.1 12 4 + 1)).1 12 6 = zm.1 12 6 := wi_k (by omega)
            have v7 : (dc_wi zm 12 4 (zm.1 12 4 + 1)).1 12 7 = zm.1 12 7 := wi_k (by omega)
            have v8 : ktw zm (dc_wi zm 12 4 (zm.1 12 4 + 1)) := ⟨fun b_w j_w hb_w => wi_k (by omega), rfl⟩
            by_cases c5_w : (Int32.ofNat s).toInt = (zm.1 12 5).toInt
            · rw [if_neg (fun q_w => q_w c5_w)] at hz
              by_cases c6_w : (zm.1 12 6).toInt ≤ (k_w : Int)
              · rw [if_pos c6_w] at hz
                have hz := Sum.inl.inj (Option.some.inj hz)
                rw [← hz]
                refine ⟨k_w + 1, by omega, nx, k3.kpw bb hh c4_w (fun a_w b_w q1_w q2_w q3_w q4_w q5_w => ?_) v4_w v5 v6 v7, k4.tw v8⟩
                rw [q2_w, mk_i (by omega)] at c6_w
                omega
              · rw [if_neg c6_w] at hz
                obtain ⟨M', r1_w, r4, r5_w, r6, r7, r8⟩ := b63_w hz
                have r1_w := Sum.inl.inj r1_w
                rw [r1_w]
                refine ⟨k_w + 1, by omega, nx, k3.nww bb hh (Or.inr (fun a_w b_w q1_w q2_w q3_w q4_w => ?_)) r4 r5_w (r6.trans k2_w) r7, k4.tw r8⟩
                rw [q2_w, mk_i (by omega)] at c6_w
                rw [q1_w, mk_i (by omega), mk_i (by omega)] at c5_w
                omega
            · rw [if_pos c5_w] at hz
              have hz := Sum.inl.inj (Option.some.inj hz)
              rw [← hz]
              refine ⟨k_w + 1, by omega, nx, k3.kpw bb hh c4_w (fun a_w b_w q1_w q2_w q3_w q4_w q5_w => ?_) v4_w v5 v6 v7, k4.tw v8⟩
              rw [q1_w, q5_w] at c5_w
              exact absurd rfl c5_w
  · obtain ⟨k_w, k1_w, k2_w, k3, k4⟩ := hI
    obtain ⟨x6, zm⟩ := z_w
    have k2_w : x6 = Int32.ofNat k_w := k2_w
    have k3 : BKc H_w E_w s e k_w zm := k3
    have k4 : ktw c0_w zm := k4
    have hz : d_X0_addTakenBack_l3b 12 a_w mask rd_w (Int32.ofNat s) (Int32.ofNat e) x6 zm = some (.inr m') := hz
    unfold d_X0_addTakenBack_l3b at hz
    have xt : x6.toInt = k_w := by rw [k2_w]; exact mk_i (by omega)
    rw [k4.1 a_w 1 (by omega), hE, xt] at hz
    by_cases c1_w : (E_w : Int) ≤ k_w
    · rw [if_pos c1_w] at hz
      have hz := Sum.inr.inj (Option.some.inj hz)
      rw [← hz]
      have ke : k_w = E_w := by omega
      rw [ke] at k3
      exact ⟨k3.ew, k4⟩
    · rw [if_neg c1_w] at hz
      split at hz
      · cases hz
      · split at hz
        · split at hz
          · obtain ⟨M', r1_w, -⟩ := b63_w hz
            cases r1_w
          · split at hz
            · cases hz
            · split at hz
              · cases hz
              · obtain ⟨M', r1_w, -⟩ := b63_w hz
                cases r1_w
        · cases hz
/-- the mask of an event that is taken back -/
def mskw (made_w : Int32) (a_w s e : Nat) (c_w : dc_M) : Int32 := ((c_w.1 8 s &&& (c_w.1 8 (d_X7_behind 4 (Int32.ofNat s) (Int32.ofNat e) c_w).toNatClampNeg ^^^ -1)) &&& made_w) &&& (((1 : Int32) <<< (c_w.1 (a_w + 3) e &&& 31)) ^^^ -1)
/-- what is so, of the class's memory -/
def HCw (H_w : Nat → Nat → Nat → Bool) (a_w E_w n_w : Nat) (made_w : Int32) (c_w : dc_M) : Prop := ∀ s e, s < n_w → e < E_w → (¬ 0 ≤ (d_X7_behind 4 (Int32.ofNat s) (Int32.ofNat e) c_w).toInt → ∀ k_w, k_w < E_w → H_w s k_w e = false) ∧ (0 ≤ (d_X7_behind 4 (Int32.ofNat s) (Int32.ofNat e) c_w).toInt → ∀ k_w, k_w < E_w → H_w s k_w e = (b32 (c_w.1 6 s) k_w && b32 (mskw made_w a_w s e c_w) (c_w.1 (a_w + 3) k_w).toNatClampNeg))
theorem bh_eqw {x y_w : Int32} {c0_w m_w : dc_M} (K_w : ktw c0_w m_w) : d_X7_behind 4 x y_w m_w = d_X7_behind 4 x y_w c0_w := by
  unfold d_X7_behind
  rw [K_w.1 (4 + 2) x.toNatClampNeg (by omega), K_w.1 (4 + 5) (x * 16 + y_w).toNatClampNeg (by omega)]
theorem ft_s {a_w E_w n_w s : Nat} {made_w : Int32} {H_w : Nat → Nat → Nat → Bool} {c0_w m_w : dc_M} {r_w : (Int32 × dc_M) ⊕ dc_M} (ha_w : a_w = 41 ∨ a_w = 52) (hE : (c0_w.1 a_w 1).toInt = E_w) (h16_w : E_w ≤ 16) (hn : n_w ≤ 200) (hs : s < n_w) (hw : ∀ k_w, k_w < E_w → 0 ≤ (c0_w.1 (a_w + 3) k_w).toInt ∧ (c0_w.1 (a_w + 3) k_w).toInt < 32) (hH : HCw H_w a_w E_w n_w made_w c0_w) (K_w : ktw c0_w m_w) (Q_w : BKc H_w E_w s 0 0 m_w) (h_w : d_X0_findTakenBack_l38 12 a_w made_w 4 (Int32.ofNat s) 0 m_w = some r_w) : ∃ m', r_w = .inl (Int32.ofNat s + 1, m') ∧ BKc H_w E_w (s + 1) 0 0 m' ∧ ktw c0_w m' := by
  unfold d_X0_findTakenBack_l38 at h_w
  refine dc_lp_inv (s := ((0 : Int32), m_w)) (fun z_w : Int32 × dc_M => ∃ e : Nat, e ≤ E_w ∧ z_w.1 = Int32.ofNat e ∧ BKc H_w E_w s e 0 z_w.2 ∧ ktw c0_w z_w.2) (fun r_w : (Int32 × dc_M) ⊕ dc_M => ∃ m', r_w = .inl (Int32.ofNat s + 1, m') ∧ BKc H_w E_w (s + 1) 0 0 m' ∧ ktw c0_w m') (fun z_w z' hI hz => ?_) (fun z_w r_w hI hz => ?_) ⟨0, Nat.zero_le _, rfl, Q_w, K_w⟩ h_w
  · obtain ⟨e, k1_w, k2_w, k3, k4⟩ := hI
    obtain ⟨x5_w, zm⟩ := z_w
    have k2_w : x5_w = Int32.ofNat e := k2_w
    have k3 : BKc H_w E_w s e 0 zm := k3
    have k4 : ktw c0_w zm := k4
    have hz : d_X0_findTakenBack_l38b 12 a_w made_w 4 (Int32.ofNat s) x5_w zm = some (.inl z') := hz
    unfold d_X0_findTakenBack_l38b at hz
    have xt : x5_w.toInt = e := by rw [k2_w]; exact mk_i (by omega)
    have xn : x5_w.toNatClampNeg = e := by rw [k2_w]; exact on_n (by omega)
    have sn : (Int32.ofNat s).toNatClampNeg = s := on_n (by omega)
    have nx : x5_w + 1 = Int32.ofNat (e + 1) := by rw [k2_w]; exact on_1 (by omega)
    rw [k4.1 a_w 1 (by omega), hE, xt] at hz
    by_cases c1_w : (E_w : Int) ≤ e
    · rw [if_pos c1_w] at hz; cases hz
    · rw [if_neg c1_w] at hz
      have eE : e < E_w := by omega
      obtain ⟨g1, g2⟩ := hH s e hs eE
      rw [← k2_w, ← bh_eqw k4] at g1 g2
      by_cases c2_w : 0 ≤ (d_X7_behind 4 (Int32.ofNat s) x5_w zm).toInt
      · rw [if_pos c2_w] at hz
        have g2 := g2 c2_w
        have em : ((zm.1 (4 + 4) (Int32.ofNat s).toNatClampNeg &&& (zm.1 (4 + 4) (d_X7_behind 4 (Int32.ofNat s) x5_w zm).toNatClampNeg ^^^ -1)) &&& made_w) &&& (((1 : Int32) <<< (zm.1 (a_w + 3) x5_w.toNatClampNeg &&& 31)) ^^^ -1) = mskw made_w a_w s e c0_w := by
          unfold mskw
          rw [← k2_w, ← bh_eqw k4, show 4 + 4 = 8 from rfl, k4.1 8 (Int32.ofNat s).toNatClampNeg (by omega), k4.1 8 (d_X7_behind 4 (Int32.ofNat s) x5_w zm).toNatClampNeg (by omega), k4.1 (a_w + 3) x5_w.toNatClampNeg (by omega), sn, xn]
        rw [em] at hz
        by_cases c3_w : (mskw made_w a_w s e c0_w).toInt = 0
        · rw [if_pos c3_w] at hz
          have hz := Sum.inl.inj (Option.some.inj hz)
          rw [← hz]
          refine ⟨e + 1, by omega, nx, k3.zw (fun k_w hk => ?_), k4⟩
          rw [g2 k_w hk, show mskw made_w a_w s e c0_w = 0 from Int32.toInt_inj.mp c3_w, b32_0, Bool.and_false]
        · rw [if_neg c3_w] at hz
          unfold d_X0_addTakenBack at hz
          rw [k4.1 (4 + 2) (Int32.ofNat s).toNatClampNeg (by omega), sn, k2_w] at hz
          cases ht : d_X0_addTakenBack_l3 12 a_w (mskw made_w a_w s e c0_w) (c0_w.1 (4 + 2) s) (Int32.ofNat s) (Int32.ofNat e) 0 zm with
          | none => rw [ht] at hz; cases hz
          | some q1_w =>
            rw [ht, Option.bind_some] at hz
            have hz := Sum.inl.inj (Option.some.inj hz)
            rw [← hz]
            obtain ⟨r1_w, r2⟩ := at_run ha_w hE h16_w (by omega) eE hw g2 k4 k3 ht
            exact ⟨e + 1, by omega, on_1 (by omega), r1_w, r2⟩
      · rw [if_neg c2_w] at hz
        have hz := Sum.inl.inj (Option.some.inj hz)
        rw [← hz]
        exact ⟨e + 1, by omega, nx, k3.zw (g1 c2_w), k4⟩
  · obtain ⟨e, k1_w, k2_w, k3, k4⟩ := hI
    obtain ⟨x5_w, zm⟩ := z_w
    have k2_w : x5_w = Int32.ofNat e := k2_w
    have k3 : BKc H_w E_w s e 0 zm := k3
    have k4 : ktw c0_w zm := k4
    have hz : d_X0_findTakenBack_l38b 12 a_w made_w 4 (Int32.ofNat s) x5_w zm = some (.inr r_w) := hz
    unfold d_X0_findTakenBack_l38b at hz
    have xt : x5_w.toInt = e := by rw [k2_w]; exact mk_i (by omega)
    rw [k4.1 a_w 1 (by omega), hE, xt] at hz
    by_cases c1_w : (E_w : Int) ≤ e
    · rw [if_pos c1_w] at hz
      have hz := Sum.inr.inj (Option.some.inj hz)
      have ke : e = E_w := by omega
      rw [ke] at k3
      exact ⟨zm, hz.symm, k3.sw, k4⟩
    · rw [if_neg c1_w] at hz
      split at hz
      · split at hz
        · cases hz
        · generalize d_X0_addTakenBack 12 a_w _ _ _ _ _ = o at hz
          cases o with
          | none => cases hz
          | some q1_w => cases hz
      · cases hz
theorem ft_n {a_w E_w n_w : Nat} {made_w : Int32} {H_w : Nat → Nat → Nat → Bool} {c0_w e : dc_M} (ha_w : a_w = 41 ∨ a_w = 52) (hE : (c0_w.1 a_w 1).toInt = E_w) (h16_w : E_w ≤ 16) (hn : n_w ≤ 200) (h40 : (c0_w.1 4 0).toInt = n_w) (hw : ∀ k_w, k_w < E_w → 0 ≤ (c0_w.1 (a_w + 3) k_w).toInt ∧ (c0_w.1 (a_w + 3) k_w).toInt < 32) (hH : HCw H_w a_w E_w n_w made_w c0_w) (h_w : d_X0_findTakenBack 12 a_w made_w 4 c0_w = some e) : BKc H_w E_w n_w 0 0 e ∧ ktw c0_w e := by
  unfold d_X0_findTakenBack at h_w
  have v4_w : (dc_wi (dc_wi (dc_wi (dc_wi c0_w 12 4 0) 12 5 (-4)) 12 6 (-4)) 12 7 (-4)).1 12 4 = 0 := by rw [wi_k (by omega), wi_k (by omega), wi_k (by omega)]; exact wi_s
  have v5 : (dc_wi (dc_wi (dc_wi (dc_wi c0_w 12 4 0) 12 5 (-4)) 12 6 (-4)) 12 7 (-4)).1 12 5 = -4 := by rw [wi_k (by omega), wi_k (by omega)]; exact wi_s
  have v6 : (dc_wi (dc_wi (dc_wi (dc_wi c0_w 12 4 0) 12 5 (-4)) 12 6 (-4)) 12 7 (-4)).1 12 6 = -4 := by rw [wi_k (by omega)]; exact wi_s
  have v7 : (dc_wi (dc_wi (dc_wi (dc_wi c0_w 12 4 0) 12 5 (-4)) 12 6 (-4)) 12 7 (-4)).1 12 7 = -4 := wi_s
  have vk : ktw c0_w (dc_wi (dc_wi (dc_wi (dc_wi c0_w 12 4 0) 12 5 (-4)) 12 6 (-4)) 12 7 (-4)) := ⟨fun b_w j_w hb_w => by rw [wi_k (by omega), wi_k (by omega), wi_k (by omega), wi_k (by omega)], rfl⟩
  generalize dc_wi (dc_wi (dc_wi (dc_wi c0_w 12 4 0) 12 5 (-4)) 12 6 (-4)) 12 7 (-4) = m1 at *
  unfold d_X0_findTakenBack_l26 at h_w
  refine dc_lp_inv (s := ((0 : Int32), m1)) (fun z_w : Int32 × dc_M => ∃ s : Nat, s ≤ n_w ∧ z_w.1 = Int32.ofNat s ∧ BKc H_w E_w s 0 0 z_w.2 ∧ ktw c0_w z_w.2) (fun e : dc_M => BKc H_w E_w n_w 0 0 e ∧ ktw c0_w e) (fun z_w z' hI hz => ?_) (fun z_w e hI hz => ?_) ⟨0, Nat.zero_le _, rfl, ⟨by rw [v4_w]; rfl, ?_⟩, vk⟩ h_w
  · obtain ⟨s, s1_w, s2_w, s3_w, s4_w⟩ := hI
    obtain ⟨x4_w, zm⟩ := z_w
    have s2_w : x4_w = Int32.ofNat s := s2_w
    have s3_w : BKc H_w E_w s 0 0 zm := s3_w
    have s4_w : ktw c0_w zm := s4_w
    have hz : d_X0_findTakenBack_l26b 12 a_w made_w 4 x4_w zm = some (.inl z') := hz
    unfold d_X0_findTakenBack_l26b at hz
    have xt : x4_w.toInt = s := by rw [s2_w]; exact mk_i (by omega)
    rw [s4_w.1 4 0 (by omega), h40, xt] at hz
    by_cases c1_w : (n_w : Int) ≤ s
    · rw [if_pos c1_w] at hz; cases hz
    · rw [if_neg c1_w, s2_w] at hz
      obtain ⟨m', r1_w, r2, r3⟩ := ft_s ha_w hE h16_w hn (by omega) hw hH s4_w s3_w hz
      have r1_w := Sum.inl.inj r1_w
      rw [r1_w]
      exact ⟨s + 1, by omega, on_1 (by omega), r2, r3⟩
  · obtain ⟨s, s1_w, s2_w, s3_w, s4_w⟩ := hI
    obtain ⟨x4_w, zm⟩ := z_w
    have s2_w : x4_w = Int32.ofNat s := s2_w
    have s3_w : BKc H_w E_w s 0 0 zm := s3_w
    have s4_w : ktw c0_w zm := s4_w
    have hz : d_X0_findTakenBack_l26b 12 a_w made_w 4 x4_w zm = some (.inr e) := hz
    unfold d_X0_findTakenBack_l26b at hz
    have xt : x4_w.toInt = s := by rw [s2_w]; exact mk_i (by omega)
    rw [s4_w.1 4 0 (by omega), h40, xt] at hz
    by_cases c1_w : (n_w : Int) ≤ s
    · rw [if_pos c1_w] at hz
      have hz := Sum.inr.inj (Option.some.inj hz)
      rw [← hz]
      have ke : s = n_w := by omega
      rw [ke] at s3_w
      exact ⟨s3_w, s4_w⟩
    · rw [if_neg c1_w, s2_w] at hz
      obtain ⟨m', r1_w, -⟩ := ft_s ha_w hE h16_w hn (by omega) hw hH s4_w s3_w hz
      cases r1_w
  · show FBw _ _ (m1.1 12 5) (m1.1 12 6) (m1.1 12 7) (m1.1 12 4)
    rw [v4_w, v5, v6, v7]
    exact Or.inl ⟨rfl, rfl, rfl, rfl, fun s k_w e hx => by unfold XCw at hx; omega⟩
