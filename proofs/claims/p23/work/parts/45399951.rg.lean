/-! ===== when events end: the reference ===== -/
def SCw (inb_w : Nat → Prop) (vv : Nat → Int) (p_w : Nat) (b_w kn_w nv : Int) : Prop := (kn_w = 0 ↔ ∃ q_w, q_w < p_w ∧ inb_w q_w ∧ vv q_w = -2) ∧ (nv = 0 ↔ ∀ q_w, q_w < p_w → inb_w q_w → vv q_w ≠ -1) ∧ 0 ≤ b_w ∧ (∀ q_w, q_w < p_w → inb_w q_w → vv q_w ≤ b_w) ∧ (b_w = 0 ∨ ∃ q_w, q_w < p_w ∧ inb_w q_w ∧ vv q_w = b_w)
theorem SCw.zw {inb_w : Nat → Prop} {vv : Nat → Int} : SCw inb_w vv 0 0 1 0 := ⟨⟨fun q_w => absurd q_w (by decide), fun ⟨q_w, h_w, _⟩ => absurd h_w (Nat.not_lt_zero q_w)⟩, ⟨fun _ q_w h_w => absurd h_w (Nat.not_lt_zero q_w), fun _ => rfl⟩, Int.le_refl _, fun q_w h_w => absurd h_w (Nat.not_lt_zero q_w), Or.inl rfl⟩
theorem SCw.s0 {inb_w : Nat → Prop} {vv : Nat → Int} {p_w : Nat} {b_w kn_w nv : Int} (S : SCw inb_w vv p_w b_w kn_w nv) (n_w : ¬ inb_w p_w) : SCw inb_w vv (p_w + 1) b_w kn_w nv := by
  obtain ⟨s1_w, s2_w, s3_w, s4_w, s5⟩ := S
  have lt_w : ∀ q_w, q_w < p_w + 1 → inb_w q_w → q_w < p_w := fun q_w h1 h2 => by
    by_cases z_w : q_w = p_w
    · rw [z_w] at h2; exact absurd h2 n_w
    · omega
  refine ⟨⟨fun k_w => ?_, fun ⟨q_w, h1, h2, h3⟩ => s1_w.mpr ⟨q_w, lt_w q_w h1 h2, h2, h3⟩⟩, ⟨fun k_w q_w h1 h2 => s2_w.mp k_w q_w (lt_w q_w h1 h2) h2, fun k_w => s2_w.mpr (fun q_w h1 h2 => k_w q_w (by omega) h2)⟩, s3_w, fun q_w h1 h2 => s4_w q_w (lt_w q_w h1 h2) h2, ?_⟩
  · obtain ⟨q_w, h1, h2⟩ := s1_w.mp k_w
    exact ⟨q_w, by omega, h2⟩
  · rcases s5 with z_w | ⟨q_w, h1, h2⟩
    · exact Or.inl z_w
    · exact Or.inr ⟨q_w, by omega, h2⟩
theorem SCw.s1 {inb_w : Nat → Prop} {vv : Nat → Int} {p_w : Nat} {b_w kn_w nv b' kn' nv' : Int} (S : SCw inb_w vv p_w b_w kn_w nv) (n_w : inb_w p_w) (hb_w : b' = if vv p_w ≤ b_w then b_w else vv p_w) (hk : kn' = 0 ↔ (kn_w = 0 ∨ vv p_w = -2)) (hn : nv' = 0 ↔ (nv = 0 ∧ vv p_w ≠ -1)) : SCw inb_w vv (p_w + 1) b' kn' nv' := by
  obtain ⟨s1_w, s2_w, s3_w, s4_w, s5⟩ := S
  refine ⟨⟨fun k_w => ?_, fun ⟨q_w, h1, h2, h3⟩ => hk.mpr ?_⟩, ⟨fun k_w q_w h1 h2 => ?_, fun k_w => hn.mpr ⟨s2_w.mpr (fun q_w h1 h2 => k_w q_w (by omega) h2), k_w p_w (Nat.lt_succ_self p_w) n_w⟩⟩, ?_, fun q_w h1 h2 => ?_, ?_⟩
  · rcases hk.mp k_w with k_w | k_w
    · obtain ⟨q_w, h1, h2⟩ := s1_w.mp k_w
      exact ⟨q_w, by omega, h2⟩
    · exact ⟨p_w, Nat.lt_succ_self p_w, n_w, k_w⟩
  · by_cases z_w : q_w = p_w
    · rw [z_w] at h3; exact Or.inr h3
    · exact Or.inl (s1_w.mpr ⟨q_w, by omega, h2, h3⟩)
  · obtain ⟨k1_w, k2_w⟩ := hn.mp k_w
    by_cases z_w : q_w = p_w
    · rw [z_w]; exact k2_w
    · exact s2_w.mp k1_w q_w (by omega) h2
  · rw [hb_w]
    split <;> omega
  · rw [hb_w]
    by_cases z_w : q_w = p_w
    · rw [z_w]; split <;> omega
    · have := s4_w q_w (by omega) h2
      split <;> omega
  · rw [hb_w]
    by_cases z_w : vv p_w ≤ b_w
    · rw [if_pos z_w]
      rcases s5 with z_w | ⟨q_w, h1, h2⟩
      · exact Or.inl z_w
      · exact Or.inr ⟨q_w, by omega, h2⟩
    · rw [if_neg z_w]
      exact Or.inr ⟨p_w, Nat.lt_succ_self p_w, n_w, rfl⟩
theorem b192_w {x1_w x2_w x3 x4_w x6 x7 s kn_w : Int32} {m_w : dc_M} {r_w : (Int32 × Int32 × Int32 × Int32) ⊕ ((Int32 × dc_M) ⊕ ((Int32 × dc_M) ⊕ dc_M))} (h_w : d_X10_layEnds_b192 82 x1_w x2_w x3 x4_w x6 x7 s kn_w m_w = some r_w) : ∃ nv : Int32, r_w = .inl ((if s.toInt ≤ x4_w.toInt then x4_w else s), kn_w, nv, x7 + 1) ∧ (nv.toInt = 0 ↔ (x6.toInt = 0 ∧ s.toInt ≠ -1)) := by
  have fin_w : ∀ nv : Int32, d_X10_layEnds_b210 82 x1_w x2_w x3 x4_w kn_w x7 s nv m_w = some r_w → r_w = .inl ((if s.toInt ≤ x4_w.toInt then x4_w else s), kn_w, nv, x7 + 1) := fun nv h_w => by
    unfold d_X10_layEnds_b210 at h_w
    by_cases c_w : s.toInt ≤ x4_w.toInt
    · rw [if_pos c_w] at h_w ⊢
      exact (Option.some.inj h_w).symm
    · rw [if_neg c_w] at h_w ⊢
      exact (Option.some.inj h_w).symm
  unfold d_X10_layEnds_b192 at h_w
  by_cases c1_w : x6.toInt = 0
  · rw [if_neg (fun q_w => q_w c1_w)] at h_w
    by_cases c2_w : s.toInt = -1
    · rw [if_neg (fun q_w => q_w c2_w)] at h_w
      exact ⟨1, fin_w _ h_w, fun q_w => absurd q_w (by decide), fun q_w => absurd c2_w q_w.2⟩
    · rw [if_pos c2_w] at h_w
      exact ⟨0, fin_w _ h_w, fun _ => ⟨c1_w, c2_w⟩, fun _ => rfl⟩
  · rw [if_pos c1_w] at h_w
    exact ⟨1, fin_w _ h_w, fun q_w => absurd q_w (by decide), fun q_w => absurd q_w.1 c1_w⟩
theorem b173_w {x1_w x2_w x3 x4_w x5_w x6 x7 s : Int32} {m_w : dc_M} {r_w : (Int32 × Int32 × Int32 × Int32) ⊕ ((Int32 × dc_M) ⊕ ((Int32 × dc_M) ⊕ dc_M))} (h_w : d_X10_layEnds_b173 82 x1_w x2_w x3 x4_w x5_w x6 x7 s m_w = some r_w) : ∃ kn_w nv : Int32, r_w = .inl ((if s.toInt ≤ x4_w.toInt then x4_w else s), kn_w, nv, x7 + 1) ∧ (kn_w.toInt = 0 ↔ (x5_w.toInt = 0 ∨ s.toInt = -2)) ∧ (nv.toInt = 0 ↔ (x6.toInt = 0 ∧ s.toInt ≠ -1)) := by
  unfold d_X10_layEnds_b173 at h_w
  by_cases c1_w : x5_w.toInt = 0
  · rw [if_pos c1_w] at h_w
    obtain ⟨nv, r1_w, r2⟩ := b192_w h_w
    exact ⟨0, nv, r1_w, ⟨fun _ => Or.inl c1_w, fun _ => rfl⟩, r2⟩
  · rw [if_neg c1_w] at h_w
    by_cases c2_w : s.toInt = -2
    · rw [if_pos c2_w] at h_w
      obtain ⟨nv, r1_w, r2⟩ := b192_w h_w
      exact ⟨0, nv, r1_w, ⟨fun _ => Or.inr c2_w, fun _ => rfl⟩, r2⟩
    · rw [if_neg c2_w] at h_w
      obtain ⟨nv, r1_w, r2⟩ := b192_w h_w
      exact ⟨1, nv, r1_w, ⟨fun q_w => absurd q_w (by decide), fun q_w => (q_w.elim c1_w c2_w).elim⟩, r2⟩
theorem le_scan {P_w e : Nat} {fr_w to_w : Nat → Nat} {m_w : dc_M} {x rd_w : Int32} {u_w : (Int32 × dc_M) ⊕ ((Int32 × dc_M) ⊕ dc_M)} {vv : Nat → Int} (hP : (m_w.1 82 10).toInt = P_w) (P20 : P_w ≤ 20) (h1 : ∀ p_w, p_w < P_w → (m_w.1 111 p_w = Int32.ofNat (fr_w p_w) ∧ m_w.1 112 p_w = Int32.ofNat (to_w p_w)) ∧ fr_w p_w < 16 ∧ to_w p_w < 16) (he : e < 16) (hv : ∀ p_w, p_w < P_w → vv p_w = if b32 (m_w.1 82 11) p_w = true then (if x.toInt = 1 then 0 else (m_w.1 114 (fr_w p_w)).toInt) else (m_w.1 113 (fr_w p_w)).toInt) (h_w : d_X10_layEnds_l92 82 x rd_w (Int32.ofNat e) 0 1 0 0 m_w = some u_w) : ∃ b_w kn_w nv : Int32, SCw (fun p_w => to_w p_w = e) vv P_w b_w.toInt kn_w.toInt nv.toInt ∧ u_w = .inl (Int32.ofNat (e + 1), dc_wi m_w 113 e (if nv.toInt = 0 then (if kn_w.toInt = 0 then -2 else b_w + m_w.1 90 e) else -1)) := by
  have en : (Int32.ofNat e).toNatClampNeg = e := on_n (by omega)
  have et : (Int32.ofNat e).toInt = e := mk_i (by omega)
  have e1_w : Int32.ofNat e + 1 = Int32.ofNat (e + 1) := on_1 (by omega)
  unfold d_X10_layEnds_l92 at h_w
  have step_w : ∀ (p_w : Nat) (b_w kn_w nv : Int32) (r_w : (Int32 × Int32 × Int32 × Int32) ⊕ ((Int32 × dc_M) ⊕ ((Int32 × dc_M) ⊕ dc_M))), p_w < P_w → SCw (fun p_w => to_w p_w = e) vv p_w b_w.toInt kn_w.toInt nv.toInt → d_X10_layEnds_l92b 82 x rd_w (Int32.ofNat e) b_w kn_w nv (Int32.ofNat p_w) m_w = some r_w → ∃ b' kn' nv' : Int32, r_w = .inl (b', kn', nv', Int32.ofNat (p_w + 1)) ∧ SCw (fun p_w => to_w p_w = e) vv (p_w + 1) b'.toInt kn'.toInt nv'.toInt := fun p_w b_w kn_w nv r_w hp S hz => by
    obtain ⟨⟨f1_w, t1_w⟩, f2_w, t2_w⟩ := h1 p_w hp
    have pt : (Int32.ofNat p_w).toInt = p_w := mk_i (by omega)
    have pn : (Int32.ofNat p_w).toNatClampNeg = p_w := on_n (by omega)
    have p1_w : Int32.ofNat p_w + 1 = Int32.ofNat (p_w + 1) := on_1 (by omega)
    have fn_w : (Int32.ofNat (fr_w p_w)).toNatClampNeg = fr_w p_w := on_n (by omega)
    have bt_w := b32_tw (x := m_w.1 82 11) (e := Int32.ofNat p_w) ⟨by omega, by omega⟩
    rw [pn] at bt_w
    unfold d_X10_layEnds_l92b at hz
    rw [hP, pt, if_neg (show ¬ (P_w : Int) ≤ p_w by omega), pn, show 82 + 30 = 112 from rfl, t1_w, mk_i (by omega), et, p1_w] at hz
    by_cases c1_w : to_w p_w = e
    · rw [if_neg (show ¬ ¬ ((to_w p_w : Int) = e) from fun q_w => q_w (by rw [c1_w]))] at hz
      have fin_w : ∀ s : Int32, s.toInt = vv p_w → d_X10_layEnds_b173 82 x rd_w (Int32.ofNat e) b_w kn_w nv (Int32.ofNat p_w) s m_w = some r_w → ∃ b' kn' nv' : Int32, r_w = .inl (b', kn', nv', Int32.ofNat (p_w + 1)) ∧ SCw (fun p_w => to_w p_w = e) vv (p_w + 1) b'.toInt kn'.toInt nv'.toInt := fun s hs hz => by
        obtain ⟨kn', nv', r1_w, r2, r3⟩ := b173_w hz
        rw [p1_w] at r1_w
        rw [hs] at r2 r3
        refine ⟨_, kn', nv', r1_w, S.s1 (show to_w p_w = e from c1_w) ?_ r2 r3⟩
        rw [hs]
        split
        · rfl
        · exact hs
      have hv := hv p_w hp
      by_cases c2_w : b32 (m_w.1 82 11) p_w = true
      · rw [if_neg (show ¬ ¬ ((m_w.1 82 11 >>> (Int32.ofNat p_w &&& 31)) &&& 1).toInt = 1 from fun q_w => q_w (bt_w.mpr c2_w))] at hz
        rw [if_pos c2_w] at hv
        unfold d_X10_layEnds_b130 at hz
        rw [if_neg (show ¬ (1 : Int32).toInt = 0 by decide), pn, show 82 + 29 = 111 from rfl, show 82 + 32 = 114 from rfl, f1_w, fn_w] at hz
        by_cases c3_w : x.toInt = 1
        · rw [if_neg (fun q_w => q_w c3_w)] at hz
          rw [if_pos c3_w] at hv
          exact fin_w _ (by rw [hv]; rfl) hz
        · rw [if_pos c3_w] at hz
          rw [if_neg c3_w] at hv
          exact fin_w _ hv.symm hz
      · rw [if_pos (show ¬ ((m_w.1 82 11 >>> (Int32.ofNat p_w &&& 31)) &&& 1).toInt = 1 from fun q_w => c2_w (bt_w.mp q_w))] at hz
        rw [if_neg c2_w] at hv
        unfold d_X10_layEnds_b130 at hz
        rw [if_pos (show (0 : Int32).toInt = 0 from rfl), pn, show 82 + 29 = 111 from rfl, show 82 + 31 = 113 from rfl, f1_w, fn_w] at hz
        exact fin_w _ hv.symm hz
    · rw [if_pos (show ¬ ((to_w p_w : Int) = e) from fun q_w => c1_w (by omega))] at hz
      exact ⟨b_w, kn_w, nv, (Option.some.inj hz).symm, S.s0 (show ¬ to_w p_w = e from c1_w)⟩
  have stop_w : ∀ (p_w : Nat) (b_w kn_w nv : Int32) (r_w : (Int32 × Int32 × Int32 × Int32) ⊕ ((Int32 × dc_M) ⊕ ((Int32 × dc_M) ⊕ dc_M))), p_w ≤ P_w → ¬ p_w < P_w → d_X10_layEnds_l92b 82 x rd_w (Int32.ofNat e) b_w kn_w nv (Int32.ofNat p_w) m_w = some r_w → r_w = .inr (.inl (Int32.ofNat (e + 1), dc_wi m_w 113 e (if nv.toInt = 0 then (if kn_w.toInt = 0 then -2 else b_w + m_w.1 90 e) else -1))) := fun p_w b_w kn_w nv r_w p1_w p2_w hz => by
    unfold d_X10_layEnds_l92b at hz
    rw [hP, mk_i (by omega), if_pos (show (P_w : Int) ≤ p_w by omega)] at hz
    unfold d_X10_layEnds_b234 at hz
    rw [en, show 82 + 31 = 113 from rfl, show 82 + 8 = 90 from rfl, e1_w] at hz
    by_cases c1_w : nv.toInt = 0
    · rw [if_pos c1_w] at hz ⊢
      by_cases c2_w : kn_w.toInt = 0
      · rw [if_pos c2_w] at hz ⊢
        exact (Option.some.inj hz).symm
      · rw [if_neg c2_w] at hz ⊢
        exact (Option.some.inj hz).symm
    · rw [if_neg c1_w] at hz ⊢
      exact (Option.some.inj hz).symm
  refine dc_lp_inv (s := ((0 : Int32), (1 : Int32), (0 : Int32), (0 : Int32))) (fun s : Int32 × Int32 × Int32 × Int32 => ∃ p_w : Nat, p_w ≤ P_w ∧ s.2.2.2 = Int32.ofNat p_w ∧ SCw (fun p_w => to_w p_w = e) vv p_w s.1.toInt s.2.1.toInt s.2.2.1.toInt) (fun u_w : (Int32 × dc_M) ⊕ ((Int32 × dc_M) ⊕ dc_M) => ∃ b_w kn_w nv : Int32, SCw (fun p_w => to_w p_w = e) vv P_w b_w.toInt kn_w.toInt nv.toInt ∧ u_w = .inl (Int32.ofNat (e + 1), dc_wi m_w 113 e (if nv.toInt = 0 then (if kn_w.toInt = 0 then -2 else b_w + m_w.1 90 e) else -1))) (fun s s' hI hs => ?_) (fun s u_w hI hs => ?_) ⟨0, Nat.zero_le _, rfl, SCw.zw⟩ h_w
  · obtain ⟨p_w, i1_w, i2_w, i3_w⟩ := hI
    obtain ⟨b_w, kn_w, nv, y_w⟩ := s
    have i2_w : y_w = Int32.ofNat p_w := i2_w
    have i3_w : SCw _ vv p_w b_w.toInt kn_w.toInt nv.toInt := i3_w
    have hs : d_X10_layEnds_l92b 82 x rd_w (Int32.ofNat e) b_w kn_w nv y_w m_w = some (.inl s') := hs
    rw [i2_w] at hs
    by_cases c_w : p_w < P_w
    · obtain ⟨b', kn', nv', r1_w, r2⟩ := step_w p_w b_w kn_w nv _ c_w i3_w hs
      have r1_w := Sum.inl.inj r1_w
      rw [r1_w]
      exact ⟨p_w + 1, by omega, rfl, r2⟩
    · have := stop_w p_w b_w kn_w nv _ i1_w c_w hs
      cases this
  · obtain ⟨p_w, i1_w, i2_w, i3_w⟩ := hI
    obtain ⟨b_w, kn_w, nv, y_w⟩ := s
    have i2_w : y_w = Int32.ofNat p_w := i2_w
    have i3_w : SCw _ vv p_w b_w.toInt kn_w.toInt nv.toInt := i3_w
    have hs : d_X10_layEnds_l92b 82 x rd_w (Int32.ofNat e) b_w kn_w nv y_w m_w = some (.inr u_w) := hs
    rw [i2_w] at hs
    by_cases c_w : p_w < P_w
    · obtain ⟨b', kn', nv', r1_w, r2⟩ := step_w p_w b_w kn_w nv _ c_w i3_w hs
      cases r1_w
    · have r_w := Sum.inr.inj (stop_w p_w b_w kn_w nv _ i1_w c_w hs)
      have pe : p_w = P_w := by omega
      rw [pe] at i3_w
      exact ⟨b_w, kn_w, nv, i3_w, r_w⟩
/-- what the reference's memory says of the net -/
def RGw (E_w P_w : Nat) (fr_w to_w : Nat → Nat) (tok : Nat → Bool) (dl : Nat → Int) (m_w : dc_M) : Prop := ((m_w.1 82 3).toInt = E_w ∧ E_w ≤ 16) ∧ ((m_w.1 82 10).toInt = P_w ∧ P_w ≤ 20) ∧ (∀ p_w, p_w < P_w → (m_w.1 111 p_w = Int32.ofNat (fr_w p_w) ∧ m_w.1 112 p_w = Int32.ofNat (to_w p_w)) ∧ fr_w p_w < E_w ∧ to_w p_w < E_w) ∧ (∀ e, e < E_w → (m_w.1 90 e).toInt = dl e ∧ 0 ≤ dl e ∧ dl e ≤ 20) ∧ (∀ p_w, p_w < P_w → b32 (m_w.1 82 11) p_w = tok p_w) ∧ ∀ e, e < E_w → ((m_w.1 88 e).toInt = 0 ↔ ¬ TKw to_w P_w e)
def LSw (E_w : Nat) (x : Int32) (B_w : Nat → Int) (m_w : dc_M) : Prop := (x.toInt = 1 ∧ ∀ e, B_w e = 0) ∨ (x.toInt ≠ 1 ∧ ∀ e, e < E_w → (m_w.1 114 e).toInt = B_w e)
theorem RGw.eqw {E_w P_w : Nat} {fr_w to_w : Nat → Nat} {tok : Nat → Bool} {dl : Nat → Int} {m_w m' : dc_M} (G_w : RGw E_w P_w fr_w to_w tok dl m_w) (e : ∀ y_w, y_w ≠ 113 → y_w ≠ 114 → m'.1 y_w = m_w.1 y_w) : RGw E_w P_w fr_w to_w tok dl m' := by
  unfold RGw
  rw [e 82 (by decide) (by decide), e 111 (by decide) (by decide), e 112 (by decide) (by decide), e 90 (by decide) (by decide), e 88 (by decide) (by decide)]
  exact G_w
/-- one event -/
theorem le_ev {E_w P_w e : Nat} {fr_w to_w : Nat → Nat} {tok : Nat → Bool} {dl B_w V : Nat → Int} {m_w : dc_M} {x rd_w : Int32} {u_w : (Int32 × dc_M) ⊕ ((Int32 × dc_M) ⊕ dc_M)} (G_w : RGw E_w P_w fr_w to_w tok dl m_w) (LS_w : LSw E_w x B_w m_w) (EQ_w : ∀ e, e < E_w → EQw P_w fr_w to_w tok dl B_w V e) (bV : ∀ e, e < E_w → -1 ≤ V e ∧ V e ≤ 20000) (bB_w : ∀ e, e < E_w → -1 ≤ B_w e ∧ B_w e ≤ 20000) (K_w : ∀ e, e < E_w → ((m_w.1 113 e).toInt = -2 ∧ TKw to_w P_w e) ∨ (m_w.1 113 e).toInt = V e) (he : e < E_w) (h_w : d_X10_layEnds_l61b 82 x rd_w (Int32.ofNat e) m_w = some u_w) : ∃ m', u_w = .inl (Int32.ofNat (e + 1), m') ∧ m'.2 = m_w.2 ∧ (∀ y_w k_w, ¬ (y_w = 113 ∧ k_w = e) → m'.1 y_w k_w = m_w.1 y_w k_w) ∧ (((m'.1 113 e).toInt = -2 ∧ TKw to_w P_w e) ∨ (m'.1 113 e).toInt = V e) ∧ ((∀ p_w, p_w < P_w → to_w p_w = e → tok p_w = false → (m_w.1 113 (fr_w p_w)).toInt ≠ -2) → (m'.1 113 e).toInt ≠ -2) ∧ ((m_w.1 113 e).toInt ≠ -2 → (m'.1 113 e).toInt ≠ -2) := by
  obtain ⟨g1, g2, g3_w, g4, g5_w, g6⟩ := G_w
  have en : (Int32.ofNat e).toNatClampNeg = e := on_n (by omega)
  have et : (Int32.ofNat e).toInt = e := mk_i (by omega)
  have e1_w : Int32.ofNat e + 1 = Int32.ofNat (e + 1) := on_1 (by omega)
  unfold d_X10_layEnds_l61b at h_w
  rw [g1.1, et, if_neg (show ¬ (E_w : Int) ≤ e by omega), en, show 82 + 31 = 113 from rfl, e1_w] at h_w
  by_cases c1_w : (m_w.1 113 e).toInt = -2
  · rw [if_neg (fun q_w => q_w c1_w)] at h_w
    have tk : TKw to_w P_w e := by
      rcases K_w e he with k_w | k_w
      · exact k_w.2
      · have := (bV e he).1
        omega
    obtain ⟨vv, hv⟩ : ∃ vv : Nat → Int, ∀ p_w, vv p_w = if b32 (m_w.1 82 11) p_w = true then (if x.toInt = 1 then 0 else (m_w.1 114 (fr_w p_w)).toInt) else (m_w.1 113 (fr_w p_w)).toInt := ⟨fun p_w => if b32 (m_w.1 82 11) p_w = true then (if x.toInt = 1 then 0 else (m_w.1 114 (fr_w p_w)).toInt) else (m_w.1 113 (fr_w p_w)).toInt, fun _ => rfl⟩
    obtain ⟨b_w, kn_w, nv, S, r_w⟩ := le_scan g2.1 g2.2 (fun p_w hp => ⟨(g3_w p_w hp).1, by have := (g3_w p_w hp).2; omega⟩) (by omega) (fun p_w _ => hv p_w) h_w
    have vt : ∀ p_w, p_w < P_w → tok p_w = true → vv p_w = B_w (fr_w p_w) := fun p_w hp t_w => by
      rw [hv, g5_w p_w hp, if_pos t_w]
      rcases LS_w with ⟨l1, l2⟩ | ⟨l1, l2⟩
      · rw [if_pos l1, l2]
      · rw [if_neg l1]
        exact l2 _ (g3_w p_w hp).2.1
    have vf : ∀ p_w, p_w < P_w → tok p_w = false → vv p_w = (m_w.1 113 (fr_w p_w)).toInt := fun p_w hp t_w => by
      rw [hv, g5_w p_w hp, if_neg (by rw [t_w]; decide)]
    have vth : ∀ p_w, p_w < P_w → vv p_w ≠ -2 → vv p_w = if tok p_w = true then B_w (fr_w p_w) else V (fr_w p_w) := fun p_w hp n_w => by
      by_cases t_w : tok p_w = true
      · rw [if_pos t_w]; exact vt p_w hp t_w
      · have t0_w := eq_false_of_ne_true t_w
        rw [if_neg t_w, vf p_w hp t0_w]
        rw [vf p_w hp t0_w] at n_w
        rcases K_w (fr_w p_w) (g3_w p_w hp).2.1 with k_w | k_w
        · exact absurd k_w.1 n_w
        · exact k_w
    have hE := EQ_w e he
    have hE : ∃ b_w, MXw (fun p_w => to_w p_w = e) (fun p_w => if tok p_w = true then B_w (fr_w p_w) else V (fr_w p_w)) P_w b_w ∧ V e = if b_w = -1 then -1 else b_w + dl e := by
      rcases hE with z_w | z_w
      · exact absurd tk z_w.1
      · exact z_w.2
    obtain ⟨b', M, ve⟩ := hE
    obtain ⟨s1_w, s2_w, s3_w, s4_w, s5⟩ := S
    refine ⟨_, r_w, rfl, fun y_w k_w n_w => wi_k n_w, ?_, fun hk => ?_, fun n_w => absurd c1_w n_w⟩
    · rw [wi_s]
      by_cases c2_w : nv.toInt = 0
      · rw [if_pos c2_w]
        by_cases c3_w : kn_w.toInt = 0
        · rw [if_pos c3_w]
          exact Or.inl ⟨rfl, tk⟩
        · rw [if_neg c3_w]
          right
          have nm := s2_w.mp c2_w
          have n2_w : ∀ q_w, q_w < P_w → to_w q_w = e → vv q_w ≠ -2 := fun q_w h1 h2 h3 => c3_w (s1_w.mpr ⟨q_w, h1, h2, h3⟩)
          have M2_w : MXw (fun p_w => to_w p_w = e) (fun p_w => if tok p_w = true then B_w (fr_w p_w) else V (fr_w p_w)) P_w b_w.toInt := by
            refine Or.inr ⟨s3_w, fun p_w p1_w p2_w => ?_, ?_⟩
            · show (if tok p_w = true then B_w (fr_w p_w) else V (fr_w p_w)) ≠ -1 ∧ (if tok p_w = true then B_w (fr_w p_w) else V (fr_w p_w)) ≤ b_w.toInt
              rw [← vth p_w p1_w (n2_w p_w p1_w p2_w)]
              exact ⟨nm p_w p1_w p2_w, s4_w p_w p1_w p2_w⟩
            · rcases s5 with z_w | ⟨p_w, p1_w, p2_w, p3_w⟩
              · exact Or.inl z_w
              · refine Or.inr ⟨p_w, p1_w, p2_w, ?_⟩
                show (if tok p_w = true then B_w (fr_w p_w) else V (fr_w p_w)) = b_w.toInt
                rw [← vth p_w p1_w (n2_w p_w p1_w p2_w)]
                exact p3_w
          have be : b' = b_w.toInt := M.uq M2_w
          have dd := g4 e he
          have ub_w : b_w.toInt ≤ 20000 := by
            rcases s5 with z_w | ⟨p_w, p1_w, p2_w, p3_w⟩
            · omega
            · rw [← p3_w, vth p_w p1_w (n2_w p_w p1_w p2_w)]
              split
              · exact (bB_w _ (g3_w p_w p1_w).2.1).2
              · exact (bV _ (g3_w p_w p1_w).2.1).2
          rw [ve, be, if_neg (by omega), Int32.toInt_add, sx_bm (by omega) (by omega), dd.1]
      · rw [if_neg c2_w]
        right
        have ex_w : ∃ q_w, q_w < P_w ∧ to_w q_w = e ∧ vv q_w = -1 := Classical.byContradiction (fun n_w => c2_w (s2_w.mpr (fun q_w h1 h2 h3 => n_w ⟨q_w, h1, h2, h3⟩)))
        obtain ⟨q_w, h1, h2, h3⟩ := ex_w
        have th := vth q_w h1 (by rw [h3]; decide)
        rw [h3] at th
        have be : b' = -1 := M.uq (Or.inl ⟨rfl, q_w, h1, h2, th.symm⟩)
        rw [ve, if_pos be]
        rfl
    · rw [wi_s]
      have n2_w : ¬ kn_w.toInt = 0 := fun z_w => by
        obtain ⟨q_w, h1, h2, h3⟩ := s1_w.mp z_w
        by_cases t_w : tok q_w = true
        · rw [vt q_w h1 t_w] at h3
          have := (bB_w _ (g3_w q_w h1).2.1).1
          omega
        · have t0_w := eq_false_of_ne_true t_w
          rw [vf q_w h1 t0_w] at h3
          exact hk q_w h1 h2 t0_w h3
      by_cases c2_w : nv.toInt = 0
      · rw [if_pos c2_w, if_neg n2_w]
        have dd := g4 e he
        have ub_w : b_w.toInt ≤ 20000 := by
          rcases s5 with z_w | ⟨p_w, p1_w, p2_w, p3_w⟩
          · omega
          · rw [← p3_w, vth p_w p1_w (fun z_w => n2_w (s1_w.mpr ⟨p_w, p1_w, p2_w, z_w⟩))]
            split
            · exact (bB_w _ (g3_w p_w p1_w).2.1).2
            · exact (bV _ (g3_w p_w p1_w).2.1).2
        rw [Int32.toInt_add, sx_bm (by omega) (by omega)]
        omega
      · rw [if_neg c2_w]
        decide
  · rw [if_pos c1_w] at h_w
    exact ⟨m_w, (Option.some.inj h_w).symm, rfl, fun _ _ _ => rfl, K_w e he, fun _ => c1_w, fun _ => c1_w⟩
