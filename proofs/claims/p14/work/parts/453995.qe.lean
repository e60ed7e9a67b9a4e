/-! ===== quarrels: what the class remembers is what the reference lays ===== -/
theorem cf_run {a n_w : Nat} {c0 c1_w : dc_M} (hn : n_w ≤ 200) (h40 : (c0.1 4 0).toInt = n_w) (len_w : (c0.2.2.2 13).2 = 64) (h_w : d_X0_find 12 a 4 c0 = some c1_w) : ∃ made q2_w, d_X3_madeWires a c0 = some made ∧ QSw (lvw (c0.1 7)) (fun t_w => c0.1 8 t_w) made n_w c1_w ∧ (∀ b j_w, ¬ (12 ≤ b ∧ b ≤ 14) → q2_w.1 b j_w = c0.1 b j_w) ∧ d_X0_findTakenBack 12 a made 4 q2_w = some c1_w := by
  unfold d_X0_find at h_w
  cases hm_w : d_X3_madeWires a c0 with
  | none => rw [hm_w] at h_w; cases h_w
  | some q1 =>
    rw [hm_w, Option.bind_some] at h_w
    cases hq : d_X0_findQuarrels 12 q1 4 c0 with
    | none => rw [hq] at h_w; cases h_w
    | some q2_w =>
      rw [hq, Option.bind_some] at h_w
      cases ht : d_X0_findTakenBack 12 a q1 4 q2_w with
      | none => rw [ht] at h_w; cases h_w
      | some q3 =>
        rw [ht] at h_w
        have h_w : some q3 = some c1_w := h_w
        have h_w := Option.some.inj h_w
        rw [h_w] at ht
        obtain ⟨Q, w_w, -⟩ := fq_run (lv := lvw (c0.1 7)) (E := fun t_w => c0.1 8 t_w) hn h40 (fun t_w _ => ⟨rfl, lvw_lt⟩) (fun _ _ => rfl) len_w hq
        obtain ⟨-, f1_w, -⟩ := ft_X0_findTakenBack (a := 41) (b := 52) (c0 := q2_w) rfl ⟨Or.inl ⟨rfl, rfl⟩, fun _ _ _ => rfl, rfl⟩ ht
        exact ⟨q1, q2_w, rfl, Q.eqw (fun k_w hk => f1_w 12 k_w (by omega)), fun b j_w hb_w => w_w b j_w (by omega) (by omega) (by omega), ht⟩
/-- what is excited in a state, on both sides -/
theorem exq_w {a n_w t_w : Nat} {z_w m M_w : dc_M} {q_w : Int32} (N_w : NR a z_w m) (hn : n_w ≤ 200) (ht : t_w < n_w) (RR : RW (z_w.1 a 1).toInt (z_w.1 (a + 3)) (m.1 100) (z_w.1 6) (z_w.1 8) (z_w.1 4 2) n_w) (M3_w : M_w.1 82 3 = m.1 82 3) (M100 : ∀ j_w, M_w.1 100 j_w = m.1 100 j_w) (M85 : ∀ j_w, M_w.1 85 j_w = m.1 85 j_w) (h_w : d_X10_excited 82 (Int32.ofNat t_w) M_w = some q_w) : q_w = z_w.1 8 t_w := by
  obtain ⟨-, ⟨n1_w, ⟨n2_w, n3_w⟩, nl⟩, -⟩ := N_w
  obtain ⟨En_w, hEn⟩ : ∃ En_w : Nat, (z_w.1 a 1).toInt = En_w := ⟨(z_w.1 a 1).toInt.toNat, by omega⟩
  have ei := ei_run (i := t_w) (E := En_w) (mk_i (by omega)) (by omega) (by rw [M3_w, ← n1_w]; exact hEn) (by omega) h_w
  have r_w := (RR.1 t_w ht).2
  refine b32_ext (fun b hb_w => Bool.eq_iff_iff.mpr ((ei b hb_w).trans (Iff.trans ?_ (r_w b hb_w).symm)))
  rw [hEn]
  constructor
  · rintro ⟨k_w, k1_w, k2_w, k3_w⟩
    rw [M100] at k2_w
    rw [M85, ← (nl k_w (by omega)).1] at k3_w
    exact ⟨k_w, k1_w, k2_w, k3_w⟩
  · rintro ⟨k_w, k1_w, k2_w, k3_w⟩
    rw [(nl k_w (by omega)).1] at k3_w
    exact ⟨k_w, k1_w, by rw [M100]; exact k2_w, by rw [M85]; exact k3_w⟩
theorem qu_cmp {a : Nat} {z_w m e_w : dc_M} (K_w : MQm z_w) (k12 : z_w.1 1 12 ≠ 0) (a7 : z_w.2.2.1 1 7 = a) (N_w : NR a z_w m) (S_w : SP 4 a z_w m) (hR : m.1 82 37 = 1) (h_w : d_X10_layQuarrels 82 m = some e_w) : z_w.1 12 0 = e_w.1 82 39 ∧ z_w.1 12 1 = e_w.1 82 40 ∧ z_w.1 12 2 = e_w.1 82 41 ∧ z_w.1 12 3 = e_w.1 82 42 := by
  obtain ⟨-, c0, c1_w, k1_w, k2_w, k3_w, k4_w, k5_w⟩ := K_w k12
  rw [a7] at k1_w k4_w
  rcases S_w with ⟨s1_w, s2_w, n_w, ⟨n1_w, n2_w⟩, s3_w, s4_w, ⟨g1, g2, RR⟩, s5, s6_w, s7⟩ | ⟨v_w, -, -, -, -, -, s6_w⟩
  · have h40 : (c0.1 4 0).toInt = n_w := by rw [k2_w 4 0 (by decide) (by decide) (by omega)]; exact s3_w
    obtain ⟨made, q2_w, hm_w, Q, -, -⟩ := cf_run n2_w h40 k3_w k4_w
    have lev : ∀ t_w, t_w < n_w → c0.1 7 t_w = m.1 101 t_w ∧ ∀ j_w, 6 ≤ j_w → j_w < 32 → b32 (m.1 101 t_w) j_w = false := fun t_w ht => ⟨(k2_w 7 t_w (by decide) (by decide) (by omega)).trans (s7 hR t_w ht).1, (s7 hR t_w ht).2⟩
    have bts : ∀ t_w, t_w < n_w → ∀ j_w, 6 ≤ j_w → j_w < 32 → b32 (c0.1 7 t_w) j_w = false := fun t_w ht j_w h1 h2 => by rw [(lev t_w ht).1]; exact (lev t_w ht).2 j_w h1 h2
    unfold d_X10_layQuarrels at h_w
    have m0 : ∀ b j_w, ¬ (b = 82 ∧ 39 ≤ j_w ∧ j_w ≤ 42) → (dc_wi (dc_wi (dc_wi (dc_wi m 82 39 0) 82 40 0) 82 41 (-4)) 82 42 (-4)).1 b j_w = m.1 b j_w := fun b j_w hb_w => by rw [wi_k (by omega), wi_k (by omega), wi_k (by omega), wi_k (by omega)]
    have v39 : (dc_wi (dc_wi (dc_wi (dc_wi m 82 39 0) 82 40 0) 82 41 (-4)) 82 42 (-4)).1 82 39 = 0 := by rw [wi_k (by omega), wi_k (by omega), wi_k (by omega)]; exact wi_s
    have v40 : (dc_wi (dc_wi (dc_wi (dc_wi m 82 39 0) 82 40 0) 82 41 (-4)) 82 42 (-4)).1 82 40 = 0 := by rw [wi_k (by omega), wi_k (by omega)]; exact wi_s
    have v41 : (dc_wi (dc_wi (dc_wi (dc_wi m 82 39 0) 82 40 0) 82 41 (-4)) 82 42 (-4)).1 82 41 = -4 := by rw [wi_k (by omega)]; exact wi_s
    have v42 : (dc_wi (dc_wi (dc_wi (dc_wi m 82 39 0) 82 40 0) 82 41 (-4)) 82 42 (-4)).1 82 42 = -4 := wi_s
    have vz : (dc_wi (dc_wi (dc_wi (dc_wi m 82 39 0) 82 40 0) 82 41 (-4)) 82 42 (-4)).2 = m.2 := rfl
    generalize dc_wi (dc_wi (dc_wi (dc_wi m 82 39 0) 82 40 0) 82 41 (-4)) 82 42 (-4) = m1 at *
    have N' := N_w
    obtain ⟨⟨w0_w, w1_w, w2_w⟩, -, -, -, -, kd⟩ := N_w
    have c00 : c0.1 a = z_w.1 a := k1_w 0 (by decide) (by decide)
    obtain ⟨R_w, -⟩ := q24_run (lv := lvw (c0.1 7)) (E := fun t_w => c0.1 8 t_w) (made := made) (m0 := m) (m := m1) n2_w (by rw [s4_w]; exact s3_w) (fun t_w u_w ht hu => by
      rw [← (lev t_w ht).1, ← (lev u_w hu).1]
      exact (lvw_iff (bts t_w ht) (bts u_w hu)).symm) (fun t_w M_w q_w ht KM_w hq => by
      show q_w = c0.1 8 t_w
      rw [k2_w 8 t_w (by decide) (by decide) (by omega)]
      exact exq_w N' n2_w ht RR (KM_w.1 82 3 (by omega)) (fun j_w => KM_w.1 100 j_w (by omega)) (fun j_w => KM_w.1 85 j_w (by omega)) hq) (fun M_w q_w KM_w hq => (mdw_eq (a := a) (c := c0) (m := M_w) (by rw [c00, KM_w.1 82 0 (by omega)]; exact w0_w) (by rw [c00]; exact w1_w) (fun j_w hj => by
      rw [c00] at hj
      rw [k1_w 2 (by decide) (by decide), KM_w.1 84 j_w (by omega)]
      exact ⟨(w2_w j_w hj).2, kd j_w hj⟩) hm_w hq).symm) ⟨by rw [v39]; rfl, by rw [v40]; rfl, by rw [v40, v41, v42]; exact Or.inl ⟨rfl, rfl, rfl, fun t_w v_w hx => by omega⟩⟩ ⟨fun b j_w hb_w => m0 b j_w hb_w, vz⟩ h_w
    obtain ⟨e0_w, e1_w, e2_w, e3_w⟩ := qeq_w Q R_w
    rw [← k5_w 0 (by decide), ← k5_w 1 (by decide), ← k5_w 2 (by decide), ← k5_w 3 (by decide)]
    exact ⟨e0_w, e1_w, e2_w, e3_w⟩
  · rw [s6_w] at hR
    exact absurd hR (by decide)
/-- what finding clashes leaves alone -/
theorem fcl_keep {m e_w : dc_M} (h_w : d_X9_findClashes 1 m = some e_w) : (∀ b k_w, ¬ (12 ≤ b ∧ b ≤ 14) → ¬ (b = 1 ∧ k_w = 12) → e_w.1 b k_w = m.1 b k_w) ∧ e_w.2 = m.2 ∧ e_w.1 1 12 ≠ 0 := by
  unfold d_X9_findClashes at h_w
  by_cases z_w : (m.1 1 12).toInt = 0
  · rw [if_neg (fun g_w => g_w z_w), show 1 + 11 = 12 from rfl, show 1 + 3 = 4 from rfl] at h_w
    cases hq : d_X0_find 12 (m.2.2.1 1 7) 4 m with
    | none => rw [hq] at h_w; cases h_w
    | some q1 =>
      rw [hq, Option.bind_some] at h_w
      obtain ⟨-, f1_w, f2_w⟩ := fz_X0_find (a := 41) (b := 52) (c0 := m) rfl ⟨Or.inl ⟨rfl, rfl⟩, fun _ _ _ => rfl, rfl⟩ hq
      have h_w := Option.some.inj h_w
      rw [← h_w]
      exact ⟨fun b k_w h1 h2 => (wi_k h2).trans (f1_w b k_w h1), f2_w, by rw [wi_s]; decide⟩
  · rw [if_pos z_w] at h_w
    cases h_w
    exact ⟨fun _ _ _ _ => rfl, rfl, fun q_w => z_w (by rw [q_w]; rfl)⟩
theorem ir_3 {m : dc_M} {e_w : Int32 × dc_M} (h_w : d_X9_isRight 1 m = some e_w) : e_w.1 = e_w.2.1 4 3 := by
  unfold d_X9_isRight at h_w
  cases hq : d_X9_explore 1 m with
  | none => rw [hq] at h_w; cases h_w
  | some q_w =>
    rw [hq] at h_w
    have h_w := Option.some.inj (show some (q_w.1 (1 + 3) 3, q_w) = some e_w from h_w)
    rw [← h_w]
