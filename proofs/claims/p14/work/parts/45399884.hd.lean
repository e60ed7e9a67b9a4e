/-! ===== states that lead home: the class's way ===== -/
def RHg (G_w : Nat → Nat → Prop) (i_w : Nat) : Prop := ∀ S_w : Nat → Prop, S_w 0 → (∀ i_w t_w, G_w i_w t_w → S_w t_w → S_w i_w) → S_w i_w
theorem RHg.zw {G_w : Nat → Nat → Prop} : RHg G_w 0 := fun _ h_w _ => h_w
theorem RHg.sw {G_w : Nat → Nat → Prop} {i_w t_w : Nat} (h_w : G_w i_w t_w) (r_w : RHg G_w t_w) : RHg G_w i_w := fun S_w h0 hs => hs i_w t_w h_w (r_w S_w h0 hs)
theorem RHg.cw {G_w : Nat → Nat → Prop} {f : Nat → Prop} (h0 : f 0) (hc_w : ∀ i_w t_w, G_w i_w t_w → f t_w → f i_w) {i_w : Nat} (r_w : RHg G_w i_w) : f i_w := r_w f h0 hc_w
theorem ctw_up {p q_w : Nat → Bool} {j : Nat} (hj : p j = false) (hq : ∀ i_w, q_w i_w = if i_w = j then true else p i_w) : ∀ n, j < n → ctw q_w n = ctw p n + 1
  | 0, h_w => absurd h_w (Nat.not_lt_zero j)
  | n + 1, h_w => by
    have e1_w : ctw q_w (n + 1) = ctw q_w n + (if q_w n = true then 1 else 0) := rfl
    have e2_w : ctw p (n + 1) = ctw p n + (if p n = true then 1 else 0) := rfl
    by_cases c_w : j = n
    · have e3_w : ctw q_w n = ctw p n := ctw_c n (fun k_w hk => by rw [hq k_w, if_neg (show ¬ k_w = j by omega)])
      have e4_w : q_w n = true := by rw [hq n, if_pos c_w.symm]
      have e5_w : p n = false := by rw [← c_w]; exact hj
      rw [e1_w, e2_w, e3_w, e4_w, e5_w, if_pos (show true = true from rfl), if_neg (show ¬ false = true by decide), Nat.add_zero]
    · rw [e1_w, e2_w, ctw_up hj hq n (by omega), hq n, if_neg (show ¬ n = j from fun e => c_w e.symm)]
      omega
theorem ctw_no {p : Nat → Bool} : ∀ n, ctw p n + ctw (fun i_w => !(p i_w)) n = n
  | 0 => rfl
  | n + 1 => by
    have e1_w : ctw p (n + 1) = ctw p n + (if p n = true then 1 else 0) := rfl
    have e2_w : ctw (fun i_w => !(p i_w)) (n + 1) = ctw (fun i_w => !(p i_w)) n + (if (!(p n)) = true then 1 else 0) := rfl
    have e := ctw_no (p := p) n
    rw [e1_w, e2_w]
    cases p n with
    | false =>
      rw [if_neg (show ¬ false = true by decide), if_pos (show (!false) = true from rfl)]
      omega
    | true =>
      rw [if_pos (show true = true from rfl), if_neg (show ¬ (!true) = true by decide)]
      omega
theorem om_1 {n : Nat} (h_w : n < 1000) : Int32.ofNat (n + 1) + -1 = Int32.ofNat n := by
  refine Int32.toInt_inj.mp ?_
  rw [Int32.toInt_add, mk_i (by omega), mk_i (by omega), show (-1 : Int32).toInt = -1 from rfl, sx_bm (by omega) (by omega)]
  omega
theorem os_1 {n : Nat} (h_w : n < 1000) : Int32.ofNat (n + 1) - 1 = Int32.ofNat n := by
  refine Int32.toInt_inj.mp ?_
  rw [Int32.toInt_sub, mk_i (by omega), mk_i (by omega), show (1 : Int32).toInt = 1 from rfl, sx_bm (by omega) (by omega)]
  omega
/-- a state that has an event into one_w that leads home -/
theorem lh_run {i_w : Nat} {c_w : dc_M} {q_w : Int32} (hi_w : i_w < 200) (h_w : d_X7_leadsHome 4 (Int32.ofNat i_w) c_w = some q_w) : ¬ q_w.toInt = 0 ↔ ∃ k_w, k_w < 16 ∧ b32 (c_w.1 6 i_w) k_w = true ∧ c_w.1 11 (c_w.1 9 (16 * i_w + k_w)).toNatClampNeg = 1 := by
  have ti : (Int32.ofNat i_w).toInt = i_w := mk_i (by omega)
  have ni : (Int32.ofNat i_w).toNatClampNeg = i_w := on_n (by omega)
  unfold d_X7_leadsHome d_X7_leadsHome_l2 at h_w
  have one_w : ∀ x : Int32, x.toInt = 1 ↔ x = 1 := fun x => ⟨fun q_w => Int32.toInt_inj.mp (q_w.trans rfl), fun q_w => by rw [q_w]; rfl⟩
  refine dc_lp_inv (s := (0 : Int32)) (fun s : Int32 => ∃ k_w, k_w ≤ 16 ∧ s = Int32.ofNat k_w ∧ ∀ j, j < k_w → ¬ (b32 (c_w.1 6 i_w) j = true ∧ c_w.1 11 (c_w.1 9 (16 * i_w + j)).toNatClampNeg = 1)) (fun q_w : Int32 => ¬ q_w.toInt = 0 ↔ ∃ k_w, k_w < 16 ∧ b32 (c_w.1 6 i_w) k_w = true ∧ c_w.1 11 (c_w.1 9 (16 * i_w + k_w)).toNatClampNeg = 1) (fun s s' hI hs => ?_) (fun s q_w hI hs => ?_) ⟨0, Nat.zero_le _, rfl, fun j hj => absurd hj (Nat.not_lt_zero j)⟩ h_w
  · obtain ⟨k_w, k1_w, k2_w, k3_w⟩ := hI
    have hs : d_X7_leadsHome_l2b 4 (Int32.ofNat i_w) s c_w = some (.inl s') := hs
    unfold d_X7_leadsHome_l2b at hs
    have st_w : s.toInt = k_w := by rw [k2_w]; exact mk_i (by omega)
    have sn : s.toNatClampNeg = k_w := by rw [k2_w]; exact on_n (by omega)
    by_cases c1_w : 16 ≤ s.toInt
    · rw [if_pos c1_w] at hs; cases hs
    · rw [if_neg c1_w, ix_1 ti hi_w st_w (by omega), ni, show 4 + 2 = 6 from rfl, show 4 + 5 = 9 from rfl, show 4 + 7 = 11 from rfl] at hs
      have bt_w := b32_t (x := c_w.1 6 i_w) (e := s) ⟨by omega, by omega⟩
      rw [sn] at bt_w
      by_cases c2_w : ((c_w.1 6 i_w >>> (s &&& 31)) &&& 1).toInt = 0
      · rw [if_pos c2_w] at hs
        have hs := Sum.inl.inj (Option.some.inj hs)
        rw [← hs]
        refine ⟨k_w + 1, by omega, by rw [k2_w]; exact on_1 (by omega), fun j hj => ?_⟩
        by_cases e : j = k_w
        · rw [e]
          exact fun q_w => by rw [bt_w.mp c2_w] at q_w; exact absurd q_w.1 (by decide)
        · exact k3_w j (by omega)
      · rw [if_neg c2_w] at hs
        by_cases c3_w : (c_w.1 11 (c_w.1 9 (16 * i_w + k_w)).toNatClampNeg).toInt = 1
        · rw [if_neg (fun q_w => q_w c3_w)] at hs; cases hs
        · rw [if_pos c3_w] at hs
          have hs := Sum.inl.inj (Option.some.inj hs)
          rw [← hs]
          refine ⟨k_w + 1, by omega, by rw [k2_w]; exact on_1 (by omega), fun j hj => ?_⟩
          by_cases e : j = k_w
          · rw [e]
            exact fun q_w => c3_w ((one_w _).mpr q_w.2)
          · exact k3_w j (by omega)
  · obtain ⟨k_w, k1_w, k2_w, k3_w⟩ := hI
    have hs : d_X7_leadsHome_l2b 4 (Int32.ofNat i_w) s c_w = some (.inr q_w) := hs
    unfold d_X7_leadsHome_l2b at hs
    have st_w : s.toInt = k_w := by rw [k2_w]; exact mk_i (by omega)
    have sn : s.toNatClampNeg = k_w := by rw [k2_w]; exact on_n (by omega)
    by_cases c1_w : 16 ≤ s.toInt
    · rw [if_pos c1_w] at hs
      have hs := Sum.inr.inj (Option.some.inj hs)
      rw [← hs]
      constructor
      · intro r_w
        exact absurd rfl r_w
      · rintro ⟨j, j1, j2_w⟩
        exact absurd j2_w (k3_w j (by omega))
    · rw [if_neg c1_w, ix_1 ti hi_w st_w (by omega), ni, show 4 + 2 = 6 from rfl, show 4 + 5 = 9 from rfl, show 4 + 7 = 11 from rfl] at hs
      have bt_w := b32_t (x := c_w.1 6 i_w) (e := s) ⟨by omega, by omega⟩
      rw [sn] at bt_w
      by_cases c2_w : ((c_w.1 6 i_w >>> (s &&& 31)) &&& 1).toInt = 0
      · rw [if_pos c2_w] at hs; cases hs
      · rw [if_neg c2_w] at hs
        by_cases c3_w : (c_w.1 11 (c_w.1 9 (16 * i_w + k_w)).toNatClampNeg).toInt = 1
        · rw [if_neg (fun q_w => q_w c3_w)] at hs
          have hs := Sum.inr.inj (Option.some.inj hs)
          rw [← hs]
          exact ⟨fun _ => ⟨k_w, by omega, eq_true_of_ne_false (fun r_w => c2_w (bt_w.mpr r_w)), (one_w _).mp c3_w⟩, fun _ => by decide⟩
        · rw [if_pos c3_w] at hs; cases hs
/-- the class's set of states that lead home, so far -/
def HRd (G_w : Nat → Nat → Prop) (n : Nat) (c0_w m_w : dc_M) : Prop := (∀ b_w j, b_w ≠ 11 → m_w.1 b_w j = c0_w.1 b_w j) ∧ m_w.2 = c0_w.2 ∧ m_w.1 11 0 = 1 ∧ ∀ i_w, i_w < n → (m_w.1 11 i_w = 0 ∨ m_w.1 11 i_w = 1) ∧ (m_w.1 11 i_w = 1 → RHg G_w i_w)
def hmw (m_w : dc_M) (i_w : Nat) : Bool := decide (m_w.1 11 i_w = 1)
def HCl (G_w : Nat → Nat → Prop) (m_w : dc_M) : Prop := ∀ i_w t_w, G_w i_w t_w → m_w.1 11 t_w = 1 → m_w.1 11 i_w = 1
def GCw (G_w : Nat → Nat → Prop) (n : Nat) (c0_w : dc_M) : Prop := (∀ i_w t_w, G_w i_w t_w → i_w < n ∧ t_w < n) ∧ ∀ i_w, i_w < n → ∀ t_w, G_w i_w t_w ↔ ∃ k_w, k_w < 16 ∧ b32 (c0_w.1 6 i_w) k_w = true ∧ (c0_w.1 9 (16 * i_w + k_w)).toNatClampNeg = t_w
theorem i01 : ¬ (0 : Int32) = 1 := by decide
/-- one_w round -/
theorem l43_w {G_w : Nat → Nat → Prop} {n C_w : Nat} {x2_w x3 : Int32} {c0_w m_w : dc_M} {u_w : (Int32 × Int32 × Int32 × dc_M) ⊕ (Int32 × dc_M)} (n1_w : 1 ≤ n) (n2_w : n ≤ 200) (gc_w : GCw G_w n c0_w) (hC : C_w = ctw (hmw m_w) n) (H_w : HRd G_w n c0_w m_w) (h_w : d_X7_findHome_l43 4 x2_w x3 (Int32.ofNat C_w) (Int32.ofNat (n - 1)) m_w = some u_w) : ∃ C'_w m', u_w = .inl (Int32.ofNat C'_w, x2_w, x3 + 1, m') ∧ HRd G_w n c0_w m' ∧ C'_w = ctw (hmw m') n ∧ C_w ≤ C'_w ∧ (C'_w = C_w → HCl G_w m') := by
  unfold d_X7_findHome_l43 at h_w
  refine dc_lp_inv (s := (Int32.ofNat C_w, Int32.ofNat (n - 1), m_w)) (fun z_w : Int32 × Int32 × dc_M => ∃ C'_w k_w, k_w < n ∧ z_w.1 = Int32.ofNat C'_w ∧ z_w.2.1 = Int32.ofNat k_w ∧ HRd G_w n c0_w z_w.2.2 ∧ C'_w = ctw (hmw z_w.2.2) n ∧ C_w ≤ C'_w ∧ (C'_w = C_w → ∀ i_w, k_w < i_w → i_w < n → z_w.2.2.1 11 i_w = 0 → ∀ t_w, G_w i_w t_w → ¬ z_w.2.2.1 11 t_w = 1)) (fun u_w : (Int32 × Int32 × Int32 × dc_M) ⊕ (Int32 × dc_M) => ∃ C'_w m', u_w = .inl (Int32.ofNat C'_w, x2_w, x3 + 1, m') ∧ HRd G_w n c0_w m' ∧ C'_w = ctw (hmw m') n ∧ C_w ≤ C'_w ∧ (C'_w = C_w → HCl G_w m')) (fun z_w z' hI hz => ?_) (fun z_w u_w hI hz => ?_) ⟨C_w, n - 1, by omega, rfl, rfl, H_w, hC, Nat.le_refl _, fun _ i_w h1 h2 => by omega⟩ h_w
  · obtain ⟨C'_w, k_w, k0_w, k1_w, k2_w, k3_w, k4_w, k5_w, k6_w⟩ := hI
    obtain ⟨x1_w, x4_w, zm⟩ := z_w
    have k1_w : x1_w = Int32.ofNat C'_w := k1_w
    have k2_w : x4_w = Int32.ofNat k_w := k2_w
    have k3_w : HRd G_w n c0_w zm := k3_w
    have k4_w : C'_w = ctw (hmw zm) n := k4_w
    have k6_w : C'_w = C_w → ∀ i_w, k_w < i_w → i_w < n → zm.1 11 i_w = 0 → ∀ t_w, G_w i_w t_w → ¬ zm.1 11 t_w = 1 := k6_w
    have hz : d_X7_findHome_l43b 4 x2_w x3 x1_w x4_w zm = some (.inl z') := hz
    unfold d_X7_findHome_l43b at hz
    have xt : x4_w.toInt = k_w := by rw [k2_w]; exact mk_i (by omega)
    have xn : x4_w.toNatClampNeg = k_w := by rw [k2_w]; exact on_n (by omega)
    rw [xt, xn, show 4 + 7 = 11 from rfl] at hz
    by_cases c1_w : (k_w : Int) ≤ 0
    · rw [if_pos c1_w] at hz; cases hz
    · rw [if_neg c1_w] at hz
      obtain ⟨k', rfl⟩ : ∃ k', k_w = k' + 1 := ⟨k_w - 1, by omega⟩
      have kx : x4_w + -1 = Int32.ofNat k' := by rw [k2_w]; exact om_1 (by omega)
      obtain ⟨h1, h2, h3, h4⟩ := k3_w
      by_cases c2_w : (zm.1 11 (k' + 1)).toInt = 0
      · rw [if_neg (fun q_w => q_w c2_w)] at hz
        have z0 : zm.1 11 (k' + 1) = 0 := Int32.toInt_inj.mp c2_w
        cases hq : d_X7_leadsHome 4 x4_w zm with
        | none => rw [hq] at hz; cases hz
        | some q_w =>
          rw [hq, Option.bind_some] at hz
          have L_w := @lh_run (k' + 1) zm q_w (by omega) (by rw [← k2_w]; exact hq)
          by_cases c3_w : q_w.toInt = 0
          · rw [if_pos c3_w] at hz
            have hz := Sum.inl.inj (Option.some.inj hz)
            rw [← hz]
            refine ⟨C'_w, k', by omega, k1_w, kx, ⟨h1, h2, h3, h4⟩, k4_w, k5_w, fun e i_w i1_w i2_w i3_w t_w gt ht => ?_⟩
            have ht : zm.1 11 t_w = 1 := ht
            have i3_w : zm.1 11 i_w = 0 := i3_w
            by_cases ek : i_w = k' + 1
            · rw [ek] at gt
              obtain ⟨j, j1, j2_w, j3_w⟩ := (gc_w.2 (k' + 1) (by omega) t_w).mp gt
              exact L_w.mpr ⟨j, j1, by rw [h1 6 _ (by decide)]; exact j2_w, by rw [h1 9 _ (by decide), j3_w]; exact ht⟩ c3_w
            · exact k6_w e i_w (by omega) i2_w i3_w t_w gt ht
          · rw [if_neg c3_w] at hz
            have hz := Sum.inl.inj (Option.some.inj hz)
            rw [← hz]
            have cb : C'_w < 201 := by have := ctw_le (p := hmw zm) n; omega
            have up_w : ctw (hmw (dc_wi zm 11 (k' + 1) 1)) n = ctw (hmw zm) n + 1 := ctw_up (j := k' + 1) (by unfold hmw; rw [z0]; exact decide_eq_false i01) (fun i_w => by
              unfold hmw
              by_cases e : i_w = k' + 1
              · rw [e, wi_s, if_pos (show k' + 1 = k' + 1 from rfl)]; exact decide_eq_true rfl
              · rw [wi_k (by omega), if_neg e]) n (by omega)
            refine ⟨C'_w + 1, k', by omega, by rw [k1_w]; exact on_1 (by omega), kx, ⟨fun b_w j hb_w => (wi_k (by omega)).trans (h1 b_w j hb_w), h2, (wi_k (by omega)).trans h3, fun i_w hi_w => ?_⟩, by rw [k4_w]; exact up_w.symm, by omega, fun e => by omega⟩
            by_cases e : i_w = k' + 1
            · rw [e]
              have w_w : (dc_wi zm 11 (k' + 1) 1).1 11 (k' + 1) = 1 := wi_s
              refine ⟨Or.inr w_w, fun _ => ?_⟩
              obtain ⟨j, j1, j2_w, j3_w⟩ := L_w.mp c3_w
              rw [h1 6 _ (by decide)] at j2_w
              rw [h1 9 _ (by decide)] at j3_w
              have g_w : G_w (k' + 1) (c0_w.1 9 (16 * (k' + 1) + j)).toNatClampNeg := (gc_w.2 (k' + 1) (by omega) _).mpr ⟨j, j1, j2_w, rfl⟩
              exact RHg.sw g_w ((h4 _ (gc_w.1 _ _ g_w).2).2 j3_w)
            · have w_w : (dc_wi zm 11 (k' + 1) 1).1 11 i_w = zm.1 11 i_w := wi_k (by omega)
              show ((dc_wi zm 11 (k' + 1) 1).1 11 i_w = 0 ∨ (dc_wi zm 11 (k' + 1) 1).1 11 i_w = 1) ∧ ((dc_wi zm 11 (k' + 1) 1).1 11 i_w = 1 → RHg G_w i_w)
              rw [w_w]
              exact h4 i_w hi_w
      · rw [if_pos c2_w] at hz
        have hz := Sum.inl.inj (Option.some.inj hz)
        rw [← hz]
        refine ⟨C'_w, k', by omega, k1_w, kx, ⟨h1, h2, h3, h4⟩, k4_w, k5_w, fun e i_w i1_w i2_w i3_w t_w gt ht => ?_⟩
        have ht : zm.1 11 t_w = 1 := ht
        have i3_w : zm.1 11 i_w = 0 := i3_w
        by_cases ek : i_w = k' + 1
        · rw [ek] at i3_w
          rw [i3_w] at c2_w
          exact c2_w rfl
        · exact k6_w e i_w (by omega) i2_w i3_w t_w gt ht
  · obtain ⟨C'_w, k_w, k0_w, k1_w, k2_w, k3_w, k4_w, k5_w, k6_w⟩ := hI
    obtain ⟨x1_w, x4_w, zm⟩ := z_w
    have k1_w : x1_w = Int32.ofNat C'_w := k1_w
    have k2_w : x4_w = Int32.ofNat k_w := k2_w
    have k3_w : HRd G_w n c0_w zm := k3_w
    have k4_w : C'_w = ctw (hmw zm) n := k4_w
    have k6_w : C'_w = C_w → ∀ i_w, k_w < i_w → i_w < n → zm.1 11 i_w = 0 → ∀ t_w, G_w i_w t_w → ¬ zm.1 11 t_w = 1 := k6_w
    have hz : d_X7_findHome_l43b 4 x2_w x3 x1_w x4_w zm = some (.inr u_w) := hz
    unfold d_X7_findHome_l43b at hz
    have xt : x4_w.toInt = k_w := by rw [k2_w]; exact mk_i (by omega)
    rw [xt] at hz
    by_cases c1_w : (k_w : Int) ≤ 0
    · rw [if_pos c1_w] at hz
      have hz := Sum.inr.inj (Option.some.inj hz)
      refine ⟨C'_w, zm, by rw [← hz, k1_w], k3_w, k4_w, k5_w, fun e i_w t_w gt ht => ?_⟩
      have gn := gc_w.1 i_w t_w gt
      rcases (k3_w.2.2.2 i_w gn.1).1 with r_w | r_w
      · by_cases i0_w : i_w = 0
        · rw [i0_w]; exact k3_w.2.2.1
        · exact absurd ht (k6_w e i_w (by omega) gn.1 r_w t_w gt)
      · exact r_w
    · rw [if_neg c1_w] at hz
      split at hz
      · cases hz
      · cases hq : d_X7_leadsHome 4 x4_w zm with
        | none => rw [hq] at hz; cases hz
        | some q_w =>
          rw [hq, Option.bind_some] at hz
          split at hz
          · cases hz
          · cases hz
theorem fh_run {G_w : Nat → Nat → Prop} {n : Nat} {c0_w : dc_M} {q_w : Int32 × dc_M} (n1_w : 1 ≤ n) (n2_w : n ≤ 200) (h40 : (c0_w.1 4 0).toInt = n) (len_w : (c0_w.2.2.2 11).2 = 200) (gc_w : GCw G_w n c0_w) (h_w : d_X7_findHome 4 c0_w = some q_w) : ∃ f : Nat → Bool, (∀ i_w, i_w < n → (f i_w = true ↔ RHg G_w i_w)) ∧ q_w.1 = Int32.ofNat (ctw f n) := by
  unfold d_X7_findHome at h_w
  rw [show 4 + 7 = 11 from rfl] at h_w
  cases hf : d_J7_fill_53178 11 0 c0_w with
  | none => rw [hf] at h_w; cases h_w
  | some m0 =>
    rw [hf, Option.bind_some] at h_w
    obtain ⟨r1_w, r2, r3⟩ := fi_run (n := 200) len_w (by decide) hf
    have z0 : (0 : Int32).toNatClampNeg = 0 := rfl
    have w0_w : (dc_wi m0 11 (0 : Int32).toNatClampNeg 1).1 11 0 = 1 := by rw [z0]; exact wi_s
    have w1_w : ∀ i_w, 0 < i_w → i_w < 200 → (dc_wi m0 11 (0 : Int32).toNatClampNeg 1).1 11 i_w = 0 := fun i_w i0_w i1_w => by rw [z0, wi_k (by omega)]; exact r3 i_w i1_w
    have w2_w : ∀ b_w j, b_w ≠ 11 → (dc_wi m0 11 (0 : Int32).toNatClampNeg 1).1 b_w j = c0_w.1 b_w j := fun b_w j hb_w => by rw [wi_k (by omega), r2 b_w hb_w]
    have w3_w : (dc_wi m0 11 (0 : Int32).toNatClampNeg 1).2 = c0_w.2 := r1_w
    generalize dc_wi m0 11 (0 : Int32).toNatClampNeg 1 = m1 at *
    have H1_w : HRd G_w n c0_w m1 := ⟨w2_w, w3_w, w0_w, fun i_w hi_w => by
      by_cases e : i_w = 0
      · rw [e]
        exact ⟨Or.inr w0_w, fun _ => RHg.zw⟩
      · rw [w1_w i_w (by omega) (by omega)]
        exact ⟨Or.inl rfl, fun q_w => absurd q_w i01⟩⟩
    have cn : ctw (hmw m1) n = 1 := by
      have z_w : ctw (fun _ => false) n = 0 := ctw_0 n (fun _ _ => rfl)
      have e : ctw (hmw m1) n = ctw (fun i_w => decide (i_w = 0)) n := ctw_c n (fun k_w hk => by
        unfold hmw
        by_cases e : k_w = 0
        · rw [e, w0_w]; rfl
        · rw [w1_w k_w (by omega) (by omega), decide_eq_false i01, decide_eq_false e])
      rw [e, ctw_up (p := fun _ => false) (j := 0) rfl (fun i_w => by
        by_cases e : i_w = 0
        · rw [if_pos e]; exact decide_eq_true e
        · rw [if_neg e]; exact decide_eq_false e) n (by omega), z_w]
    unfold d_X7_findHome_l21 at h_w
    have fin_w : ∀ (C_w : Nat) (m_w : dc_M), HRd G_w n c0_w m_w → C_w = ctw (hmw m_w) n → HCl G_w m_w → ∃ f : Nat → Bool, (∀ i_w, i_w < n → (f i_w = true ↔ RHg G_w i_w)) ∧ Int32.ofNat C_w = Int32.ofNat (ctw f n) := fun C_w m_w H_w hC cl_w => ⟨hmw m_w, fun i_w hi_w => ⟨fun q_w => (H_w.2.2.2 i_w hi_w).2 (of_decide_eq_true q_w), fun r_w => decide_eq_true (RHg.cw (f := fun i_w => m_w.1 11 i_w = 1) H_w.2.2.1 cl_w r_w)⟩, by rw [hC]⟩
    refine dc_lp_inv (s := ((1 : Int32), (0 : Int32), (0 : Int32), m1)) (fun z_w : Int32 × Int32 × Int32 × dc_M => ∃ C_w p r_w, z_w.1 = Int32.ofNat C_w ∧ z_w.2.1 = Int32.ofNat p ∧ z_w.2.2.1 = Int32.ofNat r_w ∧ r_w ≤ 200 ∧ HRd G_w n c0_w z_w.2.2.2 ∧ C_w = ctw (hmw z_w.2.2.2) n ∧ p ≤ C_w ∧ (C_w = p → HCl G_w z_w.2.2.2) ∧ (C_w = p ∨ r_w + 1 ≤ C_w)) (fun q_w : Int32 × dc_M => ∃ f : Nat → Bool, (∀ i_w, i_w < n → (f i_w = true ↔ RHg G_w i_w)) ∧ q_w.1 = Int32.ofNat (ctw f n)) (fun z_w z' hI hz => ?_) (fun z_w q_w hI hz => ?_) ⟨1, 0, 0, rfl, rfl, rfl, by omega, H1_w, cn.symm, by omega, fun e => absurd e (by decide), Or.inr (Nat.le_refl 1)⟩ h_w
    · obtain ⟨C_w, p, r_w, e1_w, e2_w, e3_w, e4_w, e5_w, e6_w, e7_w, e8, e9_w⟩ := hI
      obtain ⟨x1_w, x2_w, x3, zm⟩ := z_w
      have e1_w : x1_w = Int32.ofNat C_w := e1_w
      have e2_w : x2_w = Int32.ofNat p := e2_w
      have e3_w : x3 = Int32.ofNat r_w := e3_w
      have e5_w : HRd G_w n c0_w zm := e5_w
      have e6_w : C_w = ctw (hmw zm) n := e6_w
      have hz : d_X7_findHome_l21b 4 x1_w x2_w x3 zm = some (.inl z') := hz
      unfold d_X7_findHome_l21b at hz
      have cb := ctw_le (p := hmw zm) n
      have x1t : x1_w.toInt = C_w := by rw [e1_w]; exact mk_i (by omega)
      have x2t : x2_w.toInt = p := by rw [e2_w]; exact mk_i (by omega)
      have x3t : x3.toInt = r_w := by rw [e3_w]; exact mk_i (by omega)
      rw [x1t, x2t, x3t] at hz
      by_cases c1_w : (200 : Int) ≤ r_w
      · rw [if_pos c1_w] at hz; cases hz
      · rw [if_neg c1_w] at hz
        by_cases c2_w : (C_w : Int) ≤ p
        · rw [if_pos c2_w] at hz; cases hz
        · rw [if_neg c2_w] at hz
          have en : zm.1 4 0 - 1 = Int32.ofNat (n - 1) := by
            have : zm.1 4 0 = Int32.ofNat (n - 1 + 1) := by
              rw [e5_w.1 4 0 (by decide)]
              refine Int32.toInt_inj.mp ?_
              rw [h40, mk_i (by omega)]
              omega
            rw [this]
            exact os_1 (by omega)
          rw [en, e1_w] at hz
          obtain ⟨C'_w, m', u1_w, u2_w, u3, u4_w, u5⟩ := l43_w n1_w n2_w gc_w e6_w e5_w hz
          have u1_w := Sum.inl.inj u1_w
          rw [u1_w]
          refine ⟨C'_w, C_w, r_w + 1, rfl, rfl, by show x3 + 1 = _; rw [e3_w]; exact on_1 (by omega), by omega, u2_w, u3, u4_w, u5, ?_⟩
          omega
    · obtain ⟨C_w, p, r_w, e1_w, e2_w, e3_w, e4_w, e5_w, e6_w, e7_w, e8, e9_w⟩ := hI
      obtain ⟨x1_w, x2_w, x3, zm⟩ := z_w
      have e1_w : x1_w = Int32.ofNat C_w := e1_w
      have e2_w : x2_w = Int32.ofNat p := e2_w
      have e3_w : x3 = Int32.ofNat r_w := e3_w
      have e5_w : HRd G_w n c0_w zm := e5_w
      have e6_w : C_w = ctw (hmw zm) n := e6_w
      have e8 : C_w = p → HCl G_w zm := e8
      have hz : d_X7_findHome_l21b 4 x1_w x2_w x3 zm = some (.inr q_w) := hz
      unfold d_X7_findHome_l21b at hz
      have cb := ctw_le (p := hmw zm) n
      have x1t : x1_w.toInt = C_w := by rw [e1_w]; exact mk_i (by omega)
      have x2t : x2_w.toInt = p := by rw [e2_w]; exact mk_i (by omega)
      have x3t : x3.toInt = r_w := by rw [e3_w]; exact mk_i (by omega)
      rw [x1t, x2t, x3t] at hz
      by_cases c1_w : (200 : Int) ≤ r_w
      · rw [if_pos c1_w] at hz
        have hz := Sum.inr.inj (Option.some.inj hz)
        rw [← hz, e1_w]
        exact fin_w C_w zm e5_w e6_w (e8 (by omega))
      · rw [if_neg c1_w] at hz
        by_cases c2_w : (C_w : Int) ≤ p
        · rw [if_pos c2_w] at hz
          have hz := Sum.inr.inj (Option.some.inj hz)
          rw [← hz, e1_w]
          exact fin_w C_w zm e5_w e6_w (e8 (by omega))
        · rw [if_neg c2_w] at hz
          have en : zm.1 4 0 - 1 = Int32.ofNat (n - 1) := by
            have : zm.1 4 0 = Int32.ofNat (n - 1 + 1) := by
              rw [e5_w.1 4 0 (by decide)]
              refine Int32.toInt_inj.mp ?_
              rw [h40, mk_i (by omega)]
              omega
            rw [this]
            exact os_1 (by omega)
          rw [en, e1_w] at hz
          obtain ⟨C'_w, m', u1_w, -⟩ := l43_w n1_w n2_w gc_w e6_w e5_w hz
          cases u1_w
