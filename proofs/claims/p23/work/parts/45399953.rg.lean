/-! ===== an order of the events ===== -/
theorem wn_w {a_w E_w P_w e : Nat} {fr_w to_w : Nat → Nat} {m_w : dc_M} {dn q_w : Int32} (N : NTw a_w E_w P_w fr_w to_w m_w) (g31 : ∀ p_w, p_w < P_w → m_w.1 31 p_w = Int32.ofNat (fr_w p_w)) (he : e < E_w) (h_w : d_X5_waitsForNone 30 a_w (Int32.ofNat e) dn m_w = some q_w) : (q_w = 1 ∧ ∀ p_w, p_w < P_w → to_w p_w = e → b32 (m_w.1 a_w 13) p_w = false → b32 dn (fr_w p_w) = true) ∨ (q_w = 0 ∧ ∃ p_w, p_w < P_w ∧ to_w p_w = e ∧ b32 (m_w.1 a_w 13) p_w = false ∧ b32 dn (fr_w p_w) = false) := by
  obtain ⟨n1_w, n2_w, n3_w, n4_w, -⟩ := N
  have en : (Int32.ofNat e).toNatClampNeg = e := on_n (by omega)
  unfold d_X5_waitsForNone at h_w
  rw [en] at h_w
  have em : ∀ p_w, p_w < P_w → (b32 (m_w.1 (a_w + 6) e &&& (m_w.1 a_w 13 ^^^ -1)) p_w = true ↔ (to_w p_w = e ∧ b32 (m_w.1 a_w 13) p_w = false)) := fun p_w hp => by
    have t_w := ((n3_w p_w hp).2.2 e he).1
    rw [b32_and, b32_xor, b32_m1 (by omega), Bool.and_eq_true, t_w]
    generalize b32 (m_w.1 a_w 13) p_w = z_w
    cases z_w <;> simp
  have step_w : ∀ (p_w : Nat) (r_w : Int32 ⊕ Int32), p_w < P_w → d_X5_waitsForNone_l18b 30 a_w dn (m_w.1 (a_w + 6) e &&& (m_w.1 a_w 13 ^^^ -1)) (Int32.ofNat p_w) m_w = some r_w → (r_w = .inl (Int32.ofNat (p_w + 1)) ∧ (to_w p_w = e → b32 (m_w.1 a_w 13) p_w = false → b32 dn (fr_w p_w) = true)) ∨ (r_w = .inr 0 ∧ to_w p_w = e ∧ b32 (m_w.1 a_w 13) p_w = false ∧ b32 dn (fr_w p_w) = false) := fun p_w r_w hp hz => by
    have pt : (Int32.ofNat p_w).toInt = p_w := mk_i (by omega)
    have pn : (Int32.ofNat p_w).toNatClampNeg = p_w := on_n (by omega)
    have p1_w : Int32.ofNat p_w + 1 = Int32.ofNat (p_w + 1) := on_1 (by omega)
    have fE_w := (n3_w p_w hp).1
    have fn_w : (Int32.ofNat (fr_w p_w)).toNatClampNeg = fr_w p_w := on_n (by omega)
    have t1_w := b32_t (x := m_w.1 (a_w + 6) e &&& (m_w.1 a_w 13 ^^^ -1)) (e := Int32.ofNat p_w) ⟨by omega, by omega⟩
    have t2_w := b32_t (x := dn) (e := Int32.ofNat (fr_w p_w)) ⟨by rw [mk_i (by omega)]; omega, by rw [mk_i (by omega)]; omega⟩
    rw [pn] at t1_w
    rw [fn_w] at t2_w
    unfold d_X5_waitsForNone_l18b at hz
    rw [n2_w.1, pt, if_neg (show ¬ (P_w : Int) ≤ p_w by omega), pn, show 30 + 1 = 31 from rfl, g31 p_w hp, p1_w] at hz
    by_cases c1_w : b32 (m_w.1 (a_w + 6) e &&& (m_w.1 a_w 13 ^^^ -1)) p_w = true
    · rw [if_neg (fun q_w => by have := t1_w.mp q_w; rw [c1_w] at this; cases this)] at hz
      obtain ⟨y1, y2⟩ := (em p_w hp).mp c1_w
      by_cases c2_w : b32 dn (fr_w p_w) = true
      · rw [if_pos (show ¬ ((dn >>> (Int32.ofNat (fr_w p_w) &&& 31)) &&& 1).toInt = 0 from fun q_w => by have := t2_w.mp q_w; rw [c2_w] at this; cases this)] at hz
        exact Or.inl ⟨(Option.some.inj hz).symm, fun _ _ => c2_w⟩
      · rw [if_neg (show ¬ ¬ ((dn >>> (Int32.ofNat (fr_w p_w) &&& 31)) &&& 1).toInt = 0 from fun q_w => q_w (t2_w.mpr (eq_false_of_ne_true c2_w)))] at hz
        exact Or.inr ⟨(Option.some.inj hz).symm, y1, y2, eq_false_of_ne_true c2_w⟩
    · rw [if_pos (t1_w.mpr (eq_false_of_ne_true c1_w))] at hz
      exact Or.inl ⟨(Option.some.inj hz).symm, fun y1 y2 => absurd ((em p_w hp).mpr ⟨y1, y2⟩) c1_w⟩
  unfold d_X5_waitsForNone_l18 at h_w
  refine dc_lp_inv (s := (0 : Int32)) (fun s : Int32 => ∃ p_w : Nat, p_w ≤ P_w ∧ s = Int32.ofNat p_w ∧ ∀ q_w, q_w < p_w → to_w q_w = e → b32 (m_w.1 a_w 13) q_w = false → b32 dn (fr_w q_w) = true) (fun q_w : Int32 => (q_w = 1 ∧ ∀ p_w, p_w < P_w → to_w p_w = e → b32 (m_w.1 a_w 13) p_w = false → b32 dn (fr_w p_w) = true) ∨ (q_w = 0 ∧ ∃ p_w, p_w < P_w ∧ to_w p_w = e ∧ b32 (m_w.1 a_w 13) p_w = false ∧ b32 dn (fr_w p_w) = false)) (fun s s' hI hs => ?_) (fun s u_w hI hs => ?_) ⟨0, Nat.zero_le _, rfl, fun q_w z_w => absurd z_w (Nat.not_lt_zero q_w)⟩ h_w
  · obtain ⟨p_w, i1_w, i2_w, i3_w⟩ := hI
    have hs : d_X5_waitsForNone_l18b 30 a_w dn (m_w.1 (a_w + 6) e &&& (m_w.1 a_w 13 ^^^ -1)) s m_w = some (.inl s') := hs
    rw [i2_w] at hs
    by_cases c_w : p_w < P_w
    · rcases step_w p_w _ c_w hs with ⟨r1_w, r2⟩ | ⟨r1_w, -⟩
      · have r1_w := Sum.inl.inj r1_w
        rw [r1_w]
        refine ⟨p_w + 1, by omega, rfl, fun q_w q1_w q2_w q3_w => ?_⟩
        by_cases z_w : q_w = p_w
        · rw [z_w] at q2_w q3_w ⊢; exact r2 q2_w q3_w
        · exact i3_w q_w (by omega) q2_w q3_w
      · cases r1_w
    · unfold d_X5_waitsForNone_l18b at hs
      rw [n2_w.1, mk_i (by omega), if_pos (show (P_w : Int) ≤ p_w by omega)] at hs
      cases hs
  · obtain ⟨p_w, i1_w, i2_w, i3_w⟩ := hI
    have hs : d_X5_waitsForNone_l18b 30 a_w dn (m_w.1 (a_w + 6) e &&& (m_w.1 a_w 13 ^^^ -1)) s m_w = some (.inr u_w) := hs
    rw [i2_w] at hs
    by_cases c_w : p_w < P_w
    · rcases step_w p_w _ c_w hs with ⟨r1_w, r2⟩ | ⟨r1_w, r2⟩
      · cases r1_w
      · exact Or.inr ⟨Sum.inr.inj r1_w, p_w, c_w, r2⟩
    · unfold d_X5_waitsForNone_l18b at hs
      rw [n2_w.1, mk_i (by omega), if_pos (show (P_w : Int) ≤ p_w by omega)] at hs
      have pe : p_w = P_w := by omega
      rw [pe] at i3_w
      exact Or.inl ⟨(Sum.inr.inj (Option.some.inj hs)).symm, i3_w⟩
/-- what stands in order so far -/
def OIw (a_w E_w P_w : Nat) (fr_w to_w : Nat → Nat) (m_w : dc_M) (n_w : Nat) (od : Nat → Nat) (dn : Int32) : Prop := n_w ≤ E_w ∧ m_w.1 30 7 = Int32.ofNat n_w ∧ (∀ j_w, j_w < n_w → m_w.1 33 j_w = Int32.ofNat (od j_w) ∧ od j_w < E_w) ∧ (∀ i_w j_w, i_w < n_w → j_w < n_w → od i_w = od j_w → i_w = j_w) ∧ (∀ e, e < E_w → (b32 dn e = true ↔ ∃ j_w, j_w < n_w ∧ od j_w = e)) ∧ ∀ j_w, j_w < n_w → ∀ p_w, p_w < P_w → to_w p_w = od j_w → b32 (m_w.1 a_w 13) p_w = false → ∃ i_w, i_w < j_w ∧ od i_w = fr_w p_w
def BLw (a_w E_w P_w : Nat) (fr_w to_w : Nat → Nat) (m_w : dc_M) (dn : Int32) (e : Nat) : Prop := b32 dn e = false → ∃ p_w, p_w < P_w ∧ to_w p_w = e ∧ b32 (m_w.1 a_w 13) p_w = false ∧ b32 dn (fr_w p_w) = false
def FPm (m_w m' : dc_M) : Prop := m'.2 = m_w.2 ∧ (∀ k_w, k_w ≠ 7 → m'.1 30 k_w = m_w.1 30 k_w) ∧ ∀ y_w, y_w ≠ 30 → y_w ≠ 33 → m'.1 y_w = m_w.1 y_w
/-- as many as n_w different below E_w: n_w is at most E_w; if n_w is E_w, all are met -/
theorem inj_le {n_w E_w : Nat} {od : Nat → Nat} (h1 : ∀ j_w, j_w < n_w → od j_w < E_w) (h2 : ∀ i_w j_w, i_w < n_w → j_w < n_w → od i_w = od j_w → i_w = j_w) : n_w ≤ E_w := Classical.byContradiction (fun c_w => by
  obtain ⟨s, t_w, q1_w, q2_w, q3_w⟩ := phole_ E_w od (fun s hs => h1 s (by omega))
  have := h2 s t_w (by omega) (by omega) q3_w
  omega)
theorem inj_all {E_w : Nat} {od : Nat → Nat} (h1 : ∀ j_w, j_w < E_w → od j_w < E_w) (h2 : ∀ i_w j_w, i_w < E_w → j_w < E_w → od i_w = od j_w → i_w = j_w) {e : Nat} (he : e < E_w) : ∃ j_w, j_w < E_w ∧ od j_w = e := Classical.byContradiction (fun c_w => by
  have nh : ∀ j_w, j_w < E_w → od j_w ≠ e := fun j_w hj q_w => c_w ⟨j_w, hj, q_w⟩
  obtain ⟨s, t_w, q1_w, q2_w, q3_w⟩ := phole_ (E_w - 1) (fun j_w => if od j_w = E_w - 1 then e else od j_w) (fun s hs => by
    show (if od s = E_w - 1 then e else od s) < E_w - 1
    have a1_w := h1 s (by omega)
    have a2 := nh s (by omega)
    split <;> omega)
  have q3_w : (if od s = E_w - 1 then e else od s) = (if od t_w = E_w - 1 then e else od t_w) := q3_w
  have a1_w := nh s (by omega)
  have a2 := nh t_w (by omega)
  have a3 := h2 s t_w (by omega) (by omega)
  split at q3_w <;> split at q3_w <;> omega)
theorem inj_mis {n_w E_w : Nat} {od : Nat → Nat} (hn : n_w < E_w) : ∃ e, e < E_w ∧ ¬ ∃ j_w, j_w < n_w ∧ od j_w = e := Classical.byContradiction (fun c_w => by
  have h_w : ∀ e, e < E_w → ∃ j_w, j_w < n_w ∧ od j_w = e := fun e he => Classical.byContradiction (fun q_w => c_w ⟨e, he, q_w⟩)
  have h' : ∀ e, ∃ j_w, e < E_w → j_w < n_w ∧ od j_w = e := fun e => by
    by_cases z_w : e < E_w
    · obtain ⟨j_w, hj⟩ := h_w e z_w
      exact ⟨j_w, fun _ => hj⟩
    · exact ⟨0, fun q_w => absurd q_w z_w⟩
  obtain ⟨g_w, hg⟩ := Classical.axiomOfChoice h'
  obtain ⟨s, t_w, q1_w, q2_w, q3_w⟩ := phole_ n_w g_w (fun s hs => (hg s (by omega)).1)
  have a1_w := (hg s (by omega)).2
  have a2 := (hg t_w (by omega)).2
  rw [q3_w] at a1_w
  omega)
theorem po_st {a_w E_w P_w e n_w : Nat} {fr_w to_w od : Nat → Nat} {m_w zm : dc_M} {x dn : Int32} {r_w : (Int32 × Int32 × dc_M) ⊕ ((Int32 × Int32 × dc_M) ⊕ (Int32 × dc_M))} (ha_w : a_w = 41 ∨ a_w = 52) (N : NTw a_w E_w P_w fr_w to_w m_w) (g31 : ∀ p_w, p_w < P_w → m_w.1 31 p_w = Int32.ofNat (fr_w p_w)) (F_w : FPm m_w zm) (O_w : OIw a_w E_w P_w fr_w to_w zm n_w od dn) (he : e < E_w) (h_w : d_X5_putInOrder_l20b 30 a_w x dn (Int32.ofNat e) zm = some r_w) : (r_w = .inl (dn, Int32.ofNat (e + 1), zm) ∧ BLw a_w E_w P_w fr_w to_w m_w dn e) ∨ (¬ BLw a_w E_w P_w fr_w to_w m_w dn e ∧ ∃ dn' zm' od', r_w = .inl (dn', Int32.ofNat (e + 1), zm') ∧ FPm m_w zm' ∧ OIw a_w E_w P_w fr_w to_w zm' (n_w + 1) od' dn') := by
  obtain ⟨f1_w, f2_w, f3_w⟩ := F_w
  obtain ⟨o1, o2, o3_w, o4_w, o5_w, o6⟩ := O_w
  have E16 := N.1.2
  have et : (Int32.ofNat e).toInt = e := mk_i (by omega)
  have en : (Int32.ofNat e).toNatClampNeg = e := on_n (by omega)
  have e1_w : Int32.ofNat e + 1 = Int32.ofNat (e + 1) := on_1 (by omega)
  have t1_w := b32_t (x := dn) (e := Int32.ofNat e) ⟨by omega, by omega⟩
  rw [en] at t1_w
  have za := f3_w a_w (by omega) (by omega)
  have NZ : NTw a_w E_w P_w fr_w to_w zm := N.eqw (fun y_w h1 h2 => f3_w y_w (by omega) (by omega))
  unfold d_X5_putInOrder_l20b at h_w
  rw [za, N.1.1, et, if_neg (show ¬ (E_w : Int) ≤ e by omega), e1_w] at h_w
  by_cases c1_w : b32 dn e = true
  · rw [if_pos (show ¬ ((dn >>> (Int32.ofNat e &&& 31)) &&& 1).toInt = 0 from fun q_w => by have := t1_w.mp q_w; rw [c1_w] at this; cases this)] at h_w
    exact Or.inl ⟨(Option.some.inj h_w).symm, fun q_w => by rw [c1_w] at q_w; cases q_w⟩
  · have c0_w := eq_false_of_ne_true c1_w
    rw [if_neg (show ¬ ¬ ((dn >>> (Int32.ofNat e &&& 31)) &&& 1).toInt = 0 from fun q_w => q_w (t1_w.mpr c0_w))] at h_w
    cases hq : d_X5_waitsForNone 30 a_w (Int32.ofNat e) dn zm with
    | none => rw [hq] at h_w; cases h_w
    | some q_w =>
      rw [hq, Option.bind_some] at h_w
      rcases wn_w NZ (fun p_w hp => by rw [f3_w 31 (by decide) (by decide)]; exact g31 p_w hp) he hq with ⟨w1_w, w2_w⟩ | ⟨w1_w, w2_w⟩
      · right
        rw [za] at w2_w
        rw [w1_w, if_neg (show ¬ (1 : Int32).toInt = 0 by decide), show 30 + 3 = 33 from rfl, wi_k (show ¬ (30 = 33 ∧ 7 = _) by omega), o2, on_n (by omega), on_1 (by omega)] at h_w
        have hn : n_w < E_w := by
          refine Classical.byContradiction (fun z_w => ?_)
          have ne_w : n_w = E_w := by omega
          rw [ne_w] at o3_w o4_w o5_w
          exact c1_w ((o5_w e he).mpr (inj_all (fun j_w hj => (o3_w j_w hj).2) o4_w he))
        have nod : ∀ j_w, j_w < n_w → od j_w ≠ e := fun j_w hj q_w => c1_w ((o5_w e he).mpr ⟨j_w, hj, q_w⟩)
        obtain ⟨od', d1_w, d2_w⟩ : ∃ od' : Nat → Nat, od' n_w = e ∧ ∀ j_w, j_w ≠ n_w → od' j_w = od j_w := ⟨fun j_w => if j_w = n_w then e else od j_w, if_pos rfl, fun j_w hj => if_neg hj⟩
        refine ⟨fun B_w => (by obtain ⟨p_w, p1_w, p2_w, p3_w, p4_w⟩ := B_w c0_w; rw [w2_w p_w p1_w p2_w p3_w] at p4_w; cases p4_w), _, _, od', (Option.some.inj h_w).symm, ⟨f1_w, fun k_w hk => ?_, fun y_w h1 h2 => ?_⟩, hn, wi_s, fun j_w hj => ?_, fun i_w j_w hi_w hj q_w => ?_, fun e' he' => ?_, fun j_w hj p_w p1_w p2_w p3_w => ?_⟩
        · rw [wi_k (by omega), wi_k (by omega)]
          exact f2_w k_w hk
        · rw [← f3_w y_w h1 h2]
          exact funext (fun k_w => (wi_k (by omega)).trans (wi_k (by omega)))
        · rw [wi_k (by omega)]
          by_cases z_w : j_w = n_w
          · rw [z_w, wi_s, d1_w]
            exact ⟨rfl, he⟩
          · rw [wi_k (by omega), d2_w j_w z_w]
            exact o3_w j_w (by omega)
        · by_cases z1 : i_w = n_w
          · by_cases z2 : j_w = n_w
            · omega
            · rw [z1, d1_w, d2_w j_w z2] at q_w
              exact absurd q_w.symm (nod j_w (by omega))
          · by_cases z2 : j_w = n_w
            · rw [z2, d1_w, d2_w i_w z1] at q_w
              exact absurd q_w (nod i_w (by omega))
            · rw [d2_w i_w z1, d2_w j_w z2] at q_w
              exact o4_w i_w j_w (by omega) (by omega) q_w
        · rw [b32_or, b32_1 ⟨by omega, by omega⟩ (by omega), en]
          by_cases z_w : e' = e
          · rw [z_w, decide_eq_true rfl, Bool.or_true]
            exact ⟨fun _ => ⟨n_w, Nat.lt_succ_self n_w, d1_w⟩, fun _ => rfl⟩
          · rw [decide_eq_false z_w, Bool.or_false, o5_w e' he']
            constructor
            · rintro ⟨j_w, j1, j2⟩
              exact ⟨j_w, by omega, by rw [d2_w j_w (by omega)]; exact j2⟩
            · rintro ⟨j_w, j1, j2⟩
              by_cases y_w : j_w = n_w
              · rw [y_w, d1_w] at j2
                exact absurd j2.symm z_w
              · rw [d2_w j_w y_w] at j2
                exact ⟨j_w, by omega, j2⟩
        · rw [wi_k (by omega), wi_k (by omega), za] at p3_w
          by_cases z_w : j_w = n_w
          · rw [z_w, d1_w] at p2_w
            rw [z_w]
            obtain ⟨i_w, i1_w, i2_w⟩ := (o5_w (fr_w p_w) (N.2.2.1 p_w p1_w).1).mp (w2_w p_w p1_w p2_w p3_w)
            exact ⟨i_w, i1_w, by rw [d2_w i_w (by omega)]; exact i2_w⟩
          · rw [d2_w j_w z_w] at p2_w
            obtain ⟨i_w, i1_w, i2_w⟩ := o6 j_w (by omega) p_w p1_w p2_w (by rw [za]; exact p3_w)
            exact ⟨i_w, i1_w, by rw [d2_w i_w (by omega)]; exact i2_w⟩
      · rw [w1_w, if_pos (show (0 : Int32).toInt = 0 from rfl)] at h_w
        rw [za] at w2_w
        exact Or.inl ⟨(Option.some.inj h_w).symm, fun _ => w2_w⟩
/-- a_w round: one more at least, or each that waits, waits for one that waits -/
theorem po_rd {a_w E_w P_w n_w : Nat} {fr_w to_w od : Nat → Nat} {m_w zm : dc_M} {x dn : Int32} {u_w : (Int32 × Int32 × dc_M) ⊕ (Int32 × dc_M)} (ha_w : a_w = 41 ∨ a_w = 52) (N : NTw a_w E_w P_w fr_w to_w m_w) (g31 : ∀ p_w, p_w < P_w → m_w.1 31 p_w = Int32.ofNat (fr_w p_w)) (F_w : FPm m_w zm) (O_w : OIw a_w E_w P_w fr_w to_w zm n_w od dn) (h_w : d_X5_putInOrder_l20 30 a_w x dn 0 zm = some u_w) : ∃ dn' zm' n' od', u_w = .inl (dn', x + 1, zm') ∧ FPm m_w zm' ∧ OIw a_w E_w P_w fr_w to_w zm' n' od' dn' ∧ (n_w < n' ∨ ∀ e, e < E_w → BLw a_w E_w P_w fr_w to_w m_w dn' e) ∧ ((∀ e, e < E_w → BLw a_w E_w P_w fr_w to_w m_w dn e) → dn' = dn) := by
  have E16 := N.1.2
  unfold d_X5_putInOrder_l20 at h_w
  have stop_w : ∀ (e : Nat) (d_w : Int32) (ym : dc_M) (r_w : (Int32 × Int32 × dc_M) ⊕ ((Int32 × Int32 × dc_M) ⊕ (Int32 × dc_M))), e ≤ E_w → ¬ e < E_w → FPm m_w ym → d_X5_putInOrder_l20b 30 a_w x d_w (Int32.ofNat e) ym = some r_w → r_w = .inr (.inl (d_w, x + 1, ym)) := fun e d_w ym r_w h1 h2 hF hz => by
    unfold d_X5_putInOrder_l20b at hz
    rw [hF.2.2 a_w (by omega) (by omega), N.1.1, mk_i (by omega), if_pos (show (E_w : Int) ≤ e by omega)] at hz
    exact (Option.some.inj hz).symm
  refine dc_lp_inv (s := (dn, (0 : Int32), zm)) (fun s : Int32 × Int32 × dc_M => ∃ e n' od', e ≤ E_w ∧ s.2.1 = Int32.ofNat e ∧ FPm m_w s.2.2 ∧ OIw a_w E_w P_w fr_w to_w s.2.2 n' od' s.1 ∧ (n_w < n' ∨ ∀ e', e' < e → BLw a_w E_w P_w fr_w to_w m_w s.1 e') ∧ (n_w = n' ∨ n_w < n') ∧ ((∀ e, e < E_w → BLw a_w E_w P_w fr_w to_w m_w dn e) → s.1 = dn)) (fun u_w : (Int32 × Int32 × dc_M) ⊕ (Int32 × dc_M) => ∃ dn' zm' n' od', u_w = .inl (dn', x + 1, zm') ∧ FPm m_w zm' ∧ OIw a_w E_w P_w fr_w to_w zm' n' od' dn' ∧ (n_w < n' ∨ ∀ e, e < E_w → BLw a_w E_w P_w fr_w to_w m_w dn' e) ∧ ((∀ e, e < E_w → BLw a_w E_w P_w fr_w to_w m_w dn e) → dn' = dn)) (fun s s' hI hs => ?_) (fun s u_w hI hs => ?_) ⟨0, n_w, od, Nat.zero_le _, rfl, F_w, O_w, Or.inr (fun e z_w => absurd z_w (Nat.not_lt_zero e)), Or.inl rfl, fun _ => rfl⟩ h_w
  · obtain ⟨e, n', od', i1_w, i2_w, i3_w, i4_w, i5, i6_w, i7_w⟩ := hI
    obtain ⟨d_w, y_w, ym⟩ := s
    have i2_w : y_w = Int32.ofNat e := i2_w
    have i5 : n_w < n' ∨ ∀ e', e' < e → BLw a_w E_w P_w fr_w to_w m_w d_w e' := i5
    have hs : d_X5_putInOrder_l20b 30 a_w x d_w y_w ym = some (.inl s') := hs
    rw [i2_w] at hs
    by_cases c_w : e < E_w
    · rcases po_st ha_w N g31 i3_w i4_w c_w hs with ⟨r1_w, r2⟩ | ⟨r0, dn', zm', od2, r1_w, r2, r3⟩
      · have r1_w := Sum.inl.inj r1_w
        rw [r1_w]
        refine ⟨e + 1, n', od', by omega, rfl, i3_w, i4_w, ?_, i6_w, i7_w⟩
        rcases i5 with z_w | z_w
        · exact Or.inl z_w
        · refine Or.inr (fun e' he' => ?_)
          by_cases y_w : e' = e
          · rw [y_w]; exact r2
          · exact z_w e' (by omega)
      · have r1_w := Sum.inl.inj r1_w
        rw [r1_w]
        exact ⟨e + 1, n' + 1, od2, by omega, rfl, r2, r3, Or.inl (by omega), Or.inr (by omega), fun z_w => absurd (show BLw a_w E_w P_w fr_w to_w m_w d_w e by rw [show d_w = dn from i7_w z_w]; exact z_w e c_w) r0⟩
    · have := stop_w e d_w ym _ i1_w c_w i3_w hs
      cases this
  · obtain ⟨e, n', od', i1_w, i2_w, i3_w, i4_w, i5, i6_w, i7_w⟩ := hI
    obtain ⟨d_w, y_w, ym⟩ := s
    have i2_w : y_w = Int32.ofNat e := i2_w
    have i5 : n_w < n' ∨ ∀ e', e' < e → BLw a_w E_w P_w fr_w to_w m_w d_w e' := i5
    have hs : d_X5_putInOrder_l20b 30 a_w x d_w y_w ym = some (.inr u_w) := hs
    rw [i2_w] at hs
    by_cases c_w : e < E_w
    · rcases po_st ha_w N g31 i3_w i4_w c_w hs with ⟨r1_w, -⟩ | ⟨-, dn', zm', od2, r1_w, -⟩
      · cases r1_w
      · cases r1_w
    · have r_w := Sum.inr.inj (stop_w e d_w ym _ i1_w c_w i3_w hs)
      have ee : e = E_w := by omega
      rw [ee] at i5
      exact ⟨d_w, ym, n', od', r_w, i3_w, i4_w, i5, i7_w⟩
theorem po_w {a_w E_w P_w : Nat} {fr_w to_w : Nat → Nat} {m_w m' : dc_M} {q_w : Int32} (ha_w : a_w = 41 ∨ a_w = 52) (N : NTw a_w E_w P_w fr_w to_w m_w) (g31 : ∀ p_w, p_w < P_w → m_w.1 31 p_w = Int32.ofNat (fr_w p_w)) (h_w : d_X5_putInOrder 30 a_w m_w = some (q_w, m')) : FPm m_w m' ∧ ((q_w = 1 ∧ ∃ od, m'.1 30 7 = Int32.ofNat E_w ∧ (∀ j_w, j_w < E_w → m'.1 33 j_w = Int32.ofNat (od j_w)) ∧ ODw E_w P_w fr_w to_w (fun p_w => b32 (m_w.1 a_w 13) p_w) od) ∨ (q_w = 0 ∧ ∃ S : Nat → Prop, (∃ e, e < E_w ∧ S e) ∧ ∀ e, e < E_w → S e → ∃ p_w, p_w < P_w ∧ to_w p_w = e ∧ b32 (m_w.1 a_w 13) p_w = false ∧ S (fr_w p_w))) := by
  have E16 := N.1.2
  unfold d_X5_putInOrder d_X5_putInOrder_l9 at h_w
  have F0_w : FPm m_w (dc_wi m_w 30 7 0) := ⟨rfl, fun k_w hk => wi_k (by omega), fun y_w h1 h2 => funext (fun k_w => wi_k (by omega))⟩
  have O0 : OIw a_w E_w P_w fr_w to_w (dc_wi m_w 30 7 0) 0 (fun _ => 0) 0 := ⟨Nat.zero_le _, wi_s, fun j_w z_w => absurd z_w (Nat.not_lt_zero j_w), fun i_w j_w z_w => absurd z_w (Nat.not_lt_zero i_w), fun e he => ⟨fun z_w => (by rw [b32_0] at z_w; cases z_w), fun ⟨j_w, z_w, _⟩ => absurd z_w (Nat.not_lt_zero j_w)⟩, fun j_w z_w => absurd z_w (Nat.not_lt_zero j_w)⟩
  refine dc_lp_inv (s := ((0 : Int32), (0 : Int32), dc_wi m_w 30 7 0)) (fun s : Int32 × Int32 × dc_M => ∃ r_w n_w od, r_w ≤ E_w ∧ s.2.1 = Int32.ofNat r_w ∧ FPm m_w s.2.2 ∧ OIw a_w E_w P_w fr_w to_w s.2.2 n_w od s.1 ∧ (r_w ≤ n_w ∨ ∀ e, e < E_w → BLw a_w E_w P_w fr_w to_w m_w s.1 e)) (fun u_w : Int32 × dc_M => FPm m_w u_w.2 ∧ ((u_w.1 = 1 ∧ ∃ od, u_w.2.1 30 7 = Int32.ofNat E_w ∧ (∀ j_w, j_w < E_w → u_w.2.1 33 j_w = Int32.ofNat (od j_w)) ∧ ODw E_w P_w fr_w to_w (fun p_w => b32 (m_w.1 a_w 13) p_w) od) ∨ (u_w.1 = 0 ∧ ∃ S : Nat → Prop, (∃ e, e < E_w ∧ S e) ∧ ∀ e, e < E_w → S e → ∃ p_w, p_w < P_w ∧ to_w p_w = e ∧ b32 (m_w.1 a_w 13) p_w = false ∧ S (fr_w p_w)))) (fun s s' hI hs => ?_) (fun s u_w hI hs => ?_) ⟨0, 0, fun _ => 0, Nat.zero_le _, rfl, F0_w, O0, Or.inl (Nat.le_refl _)⟩ h_w
  · obtain ⟨r_w, n_w, od, i1_w, i2_w, i3_w, i4_w, i5⟩ := hI
    obtain ⟨d_w, y_w, ym⟩ := s
    have i2_w : y_w = Int32.ofNat r_w := i2_w
    have i3_w : FPm m_w ym := i3_w
    have i4_w : OIw a_w E_w P_w fr_w to_w ym n_w od d_w := i4_w
    have hs : d_X5_putInOrder_l9b 30 a_w d_w y_w ym = some (.inl s') := hs
    unfold d_X5_putInOrder_l9b at hs
    rw [i2_w, i3_w.2.2 a_w (by omega) (by omega), N.1.1, mk_i (by omega)] at hs
    by_cases c_w : (E_w : Int) ≤ r_w
    · rw [if_pos c_w] at hs
      generalize d_X5_putInOrder_b89 30 a_w ym = o at hs
      cases o with
      | none => cases hs
      | some o => cases hs
    · rw [if_neg c_w] at hs
      obtain ⟨dn', zm', n', od', r1_w, r2, r3, r4, r5_w⟩ := po_rd ha_w N g31 i3_w i4_w hs
      have r1_w := Sum.inl.inj r1_w
      rw [r1_w]
      refine ⟨r_w + 1, n', od', by omega, on_1 (by omega), r2, r3, ?_⟩
      rcases r4 with z_w | z_w
      · rcases i5 with w_w | w_w
        · exact Or.inl (by omega)
        · right
          rw [r5_w w_w]
          exact w_w
      · exact Or.inr z_w
  · obtain ⟨r_w, n_w, od, i1_w, i2_w, i3_w, i4_w, i5⟩ := hI
    obtain ⟨d_w, y_w, ym⟩ := s
    have i2_w : y_w = Int32.ofNat r_w := i2_w
    have i3_w : FPm m_w ym := i3_w
    have i4_w : OIw a_w E_w P_w fr_w to_w ym n_w od d_w := i4_w
    have i5 : r_w ≤ n_w ∨ ∀ e, e < E_w → BLw a_w E_w P_w fr_w to_w m_w d_w e := i5
    have hs : d_X5_putInOrder_l9b 30 a_w d_w y_w ym = some (.inr u_w) := hs
    unfold d_X5_putInOrder_l9b at hs
    rw [i2_w, i3_w.2.2 a_w (by omega) (by omega), N.1.1, mk_i (by omega)] at hs
    by_cases c_w : (E_w : Int) ≤ r_w
    · rw [if_pos c_w] at hs
      have i5 : E_w ≤ n_w ∨ ∀ e, e < E_w → BLw a_w E_w P_w fr_w to_w m_w d_w e := by
        rcases i5 with z_w | z_w
        · exact Or.inl (by omega)
        · exact Or.inr z_w
      obtain ⟨o1, o2, o3_w, o4_w, o5_w, o6⟩ := i4_w
      unfold d_X5_putInOrder_b89 at hs
      rw [i3_w.2.2 a_w (by omega) (by omega), N.1.1, o2, mk_i (by omega)] at hs
      by_cases c2_w : (n_w : Int) = E_w
      · rw [if_neg (fun z_w => z_w c2_w)] at hs
        have hs := Sum.inr.inj (Option.some.inj hs)
        rw [← hs]
        have ne_w : n_w = E_w := by omega
        rw [ne_w] at o2 o3_w o4_w o5_w o6
        refine ⟨i3_w, Or.inl ⟨rfl, od, o2, fun j_w hj => (o3_w j_w hj).1, fun j_w hj => (o3_w j_w hj).2, o4_w, fun e he => inj_all (fun j_w hj => (o3_w j_w hj).2) o4_w he, fun j_w hj p_w p1_w p2_w p3_w => ?_⟩⟩
        exact o6 j_w hj p_w p1_w p2_w (by rw [i3_w.2.2 a_w (by omega) (by omega)]; exact p3_w)
      · rw [if_pos c2_w] at hs
        have hs := Sum.inr.inj (Option.some.inj hs)
        rw [← hs]
        have bl := i5.resolve_left (by omega)
        obtain ⟨e0_w, e1_w, e2_w⟩ := inj_mis (od := od) (show n_w < E_w by omega)
        exact ⟨i3_w, Or.inr ⟨rfl, fun e => b32 d_w e = false, ⟨e0_w, e1_w, eq_false_of_ne_true (fun z_w => e2_w ((o5_w e0_w e1_w).mp z_w))⟩, bl⟩⟩
    · rw [if_neg c_w] at hs
      obtain ⟨dn', zm', n', od', r1_w, -⟩ := po_rd ha_w N g31 i3_w i4_w hs
      cases r1_w
