/-! ===== time: both sides answer alike; beat leaves the relation ===== -/
theorem RAw.frf {c_w m_w c' m' : dc_M} (R : RAw c_w m_w) (e1_w : ∀ y_w k_w, ¬ (30 ≤ y_w ∧ y_w ≤ 36) → ¬ (y_w = 1 ∧ k_w = 14) → c'.1 y_w k_w = c_w.1 y_w k_w) (e2_w : ∀ f_w, c'.2.2.1 1 f_w = c_w.2.2.1 1 f_w) (K_w : kr m_w m') : RAw c' m' := by
  have ha_w := md41 R.1.1.2.2
  have kk : ∀ k_w, k_w = 0 ∨ k_w = 3 ∨ k_w = 10 ∨ k_w = 11 ∨ k_w = 13 ∨ k_w = 14 ∨ k_w = 64 → m'.1 82 k_w = m_w.1 82 k_w := fun k_w hk => K_w 82 k_w (by unfold krc; omega)
  have kb : ∀ b_w, (83 ≤ b_w ∧ b_w ≤ 91) ∨ (115 ≤ b_w ∧ b_w ≤ 119) → m'.1 b_w = m_w.1 b_w := fun b_w hb_w => funext (fun k_w => K_w b_w k_w (by unfold krc; omega))
  have en : ∀ i_w, i_w ≤ 10 → c'.1 (c_w.2.2.1 1 7 + i_w) = c_w.1 (c_w.2.2.1 1 7 + i_w) := fun i_w hi_w => funext (fun k_w => e1_w _ k_w (by omega) (by omega))
  have N_w : RN c' m' := by
    refine ⟨⟨tp.up R.1.1.1 (e1_w 2 1 (by omega) (by omega)) (fun j_w => e1_w 3 j_w (by omega) (by omega)) (kk 13 (by omega)) (fun j_w => by rw [kb 91 (by omega)]), by rw [e1_w 2 2 (by omega) (by omega), kk 14 (by omega)]; exact R.1.1.2.1, by rw [e2_w, e2_w]; exact R.1.1.2.2⟩, ?_, R.1.2.2.eq (e1_w 1 11 (by omega) (by omega)) (e2_w 7) en (fun b_w k_w b1 b2 _ => e1_w b_w k_w (by omega) (by omega))⟩
    rw [e2_w]
    exact NR.eq R.1.2.1 en (fun k_w hk => kk k_w (by omega)) (fun b_w q1_w q2_w => kb b_w (by omega))
  exact R.kpw N_w (fun b_w k_w hb_w => e1_w b_w k_w (by omega) (by omega)) (kk 64 (by omega)) (kk 11 (by omega)) (fun b_w k_w h1 h2 => by rw [kb b_w (by omega)])
theorem ndw {a_w : Nat} {c_w m_w : dc_M} (N_w : NR a_w c_w m_w) (D_w : DLb a_w c_w) : ∃ E_w P_w, NDw a_w E_w P_w c_w := by
  obtain ⟨-, ⟨-, n2_w, n3_w⟩, ⟨-, n5_w, -⟩, xb, -⟩ := N_w
  refine ⟨(c_w.1 a_w 1).toInt.toNat, (c_w.1 a_w 2).toInt.toNat, ⟨by omega, by omega⟩, ⟨by omega, by omega⟩, fun p_w hp k_w hk => ?_, fun k_w hk b_w hb_w hpb => ?_, fun k_w hk => D_w.2 k_w (by omega)⟩
  · have w_w := xb p_w (show (p_w : Int) < (c_w.1 a_w 2).toInt by omega) k_w hk
    have w1_w : b32 (c_w.1 (a_w + 9) p_w) k_w = (decide ((k_w : Int) < (c_w.1 a_w 1).toInt) && b32 (c_w.1 (a_w + 7) k_w) p_w) := w_w.1
    have w2_w : b32 (c_w.1 (a_w + 10) p_w) k_w = (decide ((k_w : Int) < (c_w.1 a_w 1).toInt) && b32 (c_w.1 (a_w + 6) k_w) p_w) := w_w.2
    rw [w1_w, w2_w, show (((c_w.1 a_w 1).toInt.toNat : Nat) : Int) = (c_w.1 a_w 1).toInt by omega]
    exact ⟨rfl, rfl⟩
  · exact (n3_w k_w (by omega)).2.2.2.2.2.2.2 b_w hb_w (by omega)
/-- the class finds the rings -/
theorem fr_w {c_w m_w q_w : dc_M} (l34 : (c_w.2.2.2 34).2 = 16) (l35 : (c_w.2.2.2 35).2 = 16) (R : RDw c_w m_w) (h_w : d_X9_findRings 1 c_w = some q_w) : ((∀ y_w k_w, ¬ (30 ≤ y_w ∧ y_w ≤ 36) → ¬ (y_w = 1 ∧ k_w = 14) → q_w.1 y_w k_w = c_w.1 y_w k_w) ∧ q_w.2.2.2 = c_w.2.2.2 ∧ ∀ y_w f_w, ¬ (y_w = 30 ∧ (f_w = 8 ∨ f_w = 9)) → q_w.2.2.1 y_w f_w = c_w.2.2.1 y_w f_w) ∧ MDw q_w ∧ MGw (q_w.2.2.1 1 7) q_w ∧ (¬ (q_w.1 30 0).toInt = 0 → SBw (q_w.2.2.1 1 7) q_w) := by
  have ha_w := md41 R.1.1.1.2.2
  unfold d_X9_findRings at h_w
  by_cases c1_w : (c_w.1 1 14).toInt = 0
  · rw [if_neg (fun z_w => z_w c1_w), show 1 + 29 = 30 from rfl] at h_w
    cases hq : d_X5_find 30 (c_w.2.2.1 1 7) c_w with
    | none => rw [hq] at h_w; cases h_w
    | some p_w =>
      rw [hq, Option.bind_some] at h_w
      have h_w := Option.some.inj h_w
      obtain ⟨E_w, P_w, D_w⟩ := ndw R.1.1.2.1 R.2.2.1
      obtain ⟨⟨f1_w, f2_w, f3_w, f4_w, f5_w⟩, G⟩ := find_w ha_w D_w R.2.1 hq
      have q2_w : q_w.2 = p_w.2 := by rw [← h_w]; rfl
      have q1_w : ∀ y_w k_w, ¬ (y_w = 1 ∧ k_w = 14) → q_w.1 y_w k_w = p_w.1 y_w k_w := fun y_w k_w n_w => by rw [← h_w]; exact wi_k n_w
      have q7_w : q_w.2.2.1 1 7 = c_w.2.2.1 1 7 := by rw [q2_w]; exact f5_w 1 7 (by omega)
      have qy : ∀ y_w, y_w ≠ 1 → q_w.1 y_w = p_w.1 y_w := fun y_w hy => funext (fun k_w => q1_w y_w k_w (fun z_w => hy z_w.1))
      have G' : MGw (q_w.2.2.1 1 7) q_w := by
        rw [q7_w]
        exact G.eqw (fun b_w b1 b2 => qy b_w (by omega)) (q1_w 30 0 (by omega)) (q1_w 30 7 (by omega)) (qy 31 (by decide)) (qy 32 (by decide)) (qy 33 (by decide))
      have S' : ¬ (q_w.1 30 0).toInt = 0 → SBw (q_w.2.2.1 1 7) q_w := fun z_w => by
        rw [q1_w 30 0 (by omega)] at z_w
        rw [q7_w]
        exact (find_b ha_w D_w R.2.1 l34 l35 hq z_w).eqw (fun b_w b1 b2 => qy b_w (by omega)) (fun k_w _ => q1_w 30 k_w (by omega)) (qy 31 (by decide)) (qy 32 (by decide)) (qy 33 (by decide))
      refine ⟨⟨fun y_w k_w n1_w n2_w => by rw [q1_w y_w k_w n2_w, f1_w y_w n1_w], by rw [q2_w]; exact f3_w, fun y_w f_w n_w => by rw [q2_w]; exact f5_w y_w f_w n_w⟩, ⟨by unfold RFw; rw [q2_w]; exact f4_w, ?_, fun _ => ⟨G', S'⟩⟩, G', S'⟩
      rw [q7_w]
      exact R.2.2.1.eqw (by rw [qy _ (by omega), f1_w _ (by omega)]) (by rw [qy _ (by omega), f1_w _ (by omega)])
  · rw [if_pos c1_w] at h_w
    have h_w := Option.some.inj h_w
    rw [← h_w]
    exact ⟨⟨fun _ _ _ _ => rfl, rfl, fun _ _ _ => rfl⟩, R.2, (R.2.2.2 (fun z_w => c1_w (by rw [z_w]; rfl))).1, (R.2.2.2 (fun z_w => c1_w (by rw [z_w]; rfl))).2⟩
/-- time -/
theorem RDw.p22w {x1_w x2_w : Int32} {c_w m_w c' m' : dc_M} {v_w v' : Int32} (l34 : (c_w.2.2.2 34).2 = 16) (l35 : (c_w.2.2.2 35).2 = 16) (R : RDw c_w m_w) (f_w : d_X9_time 1 x1_w x2_w c_w = some (v_w, c')) (g_w : d_X10_time 82 x1_w x2_w m_w = some (v', m')) : v_w = v' ∧ RDw c' m' := by
  have kr' : kr m_w m' := kr_X10_time kr_of g_w
  have B_w := NB.ofw R.1.1.2.1
  have n1_w : c_w.1 (c_w.2.2.1 1 7) 1 = m_w.1 82 3 := R.1.1.2.1.2.1.1
  have nf_w : c' = c_w → RDw c' m' := fun e_w => by
    rw [e_w]
    exact ⟨R.1.frf (fun _ _ _ _ => rfl) (fun _ => rfl) kr', R.2⟩
  unfold d_X9_time at f_w
  unfold d_X10_time at g_w
  rw [di_in, di_il, show (1 : Int64).toInt = 1 from rfl, show (50 : Int64).toInt = 50 from rfl] at g_w
  by_cases c1_w : 0 ≤ x1_w.toInt ∧ x1_w.toInt < (m_w.1 82 3).toInt
  · rw [if_neg (fun q_w => (hv_0.mp q_w) (by rw [n1_w]; exact c1_w))] at f_w
    rw [if_neg (fun q_w => ((ev_0 B_w.2.1).mp q_w) c1_w)] at g_w
    by_cases c2_w : 1 ≤ x2_w.toInt ∧ x2_w.toInt ≤ 50
    · rw [if_neg (show ¬ x2_w.toInt < 1 by omega), if_pos c2_w.2] at f_w
      rw [if_pos (fun q_w => (di_ine.mp q_w) c2_w)] at g_w
      cases hq : d_X9_findRings 1 c_w with
      | none => rw [hq] at f_w; cases f_w
      | some q_w =>
        rw [hq, Option.bind_some, show 1 + 29 = 30 from rfl] at f_w
        obtain ⟨⟨q1_w, q2_w, q3_w⟩, qM, qG, qS⟩ := fr_w l34 l35 R hq
        have q7_w : q_w.2.2.1 1 7 = c_w.2.2.1 1 7 := q3_w 1 7 (by omega)
        have ha_w := md41 R.1.1.1.2.2
        have Rq : RAw q_w m_w := R.1.frf q1_w (fun f_w => q3_w 1 f_w (by omega)) kr_of
        have NRq := Rq.1.2.1
        obtain ⟨E_w, P_w, D_w⟩ := ndw NRq qM.2.1
        cases hg : d_X10_isGraph 82 m_w with
        | none => rw [hg] at g_w; cases g_w
        | some y_w =>
          rw [hg, Option.bind_some] at g_w
          obtain ⟨yq, ym⟩ := y_w
          have ha' : q_w.2.2.1 1 7 = 41 ∨ q_w.2.2.1 1 7 = 52 := by rw [q7_w]; exact ha_w
          have rk : ∀ k_w, k_w < E_w → m_w.1 88 k_w = q_w.1 (q_w.2.2.1 1 7 + 6) k_w ∧ m_w.1 89 k_w = q_w.1 (q_w.2.2.1 1 7 + 7) k_w ∧ m_w.1 90 k_w = q_w.1 (q_w.2.2.1 1 7 + 8) k_w := fun k_w hk => by
            have w_w := NRq.2.1.2.2 k_w (by rw [D_w.1.1]; omega)
            exact ⟨w_w.2.2.2.1.symm, w_w.2.2.2.2.1.symm, w_w.2.2.2.2.2.1.symm⟩
          obtain ⟨k1_w, k2_w, k3_w⟩ := gr_w ha' D_w qG NRq.2.1.1.symm NRq.2.2.1.1.symm NRq.2.2.1.2.2.symm rk hg
          rcases k3_w with ⟨z0, z1, fr_w, to_w, od, g1, g2, g3_w, g4⟩ | ⟨z0, z1⟩
          · have z1 : yq = 1 := z1
            rw [if_neg z0] at f_w
            rw [z1, if_pos (show ¬ (1 : Int32).toInt = 0 by decide)] at g_w
            have E16 := D_w.1.2
            have eE : (m_w.1 82 3).toInt = E_w := by rw [← NRq.2.1.1]; exact D_w.1.1
            obtain ⟨e_w, he⟩ : ∃ e_w : Nat, (e_w : Int) = x1_w.toInt := ⟨x1_w.toInt.toNat, by omega⟩
            obtain ⟨K_w, hK_w⟩ : ∃ K_w : Nat, (K_w : Int) = x2_w.toInt := ⟨x2_w.toInt.toNat, by omega⟩
            have xe : x1_w = Int32.ofNat e_w := Int32.toInt_inj.mp (by rw [mk_i (by omega)]; exact he.symm)
            cases ho : d_X5_endOf 30 (q_w.2.2.1 1 7) x1_w x2_w q_w with
            | none => rw [ho] at f_w; cases f_w
            | some o =>
              rw [ho, Option.bind_some] at f_w
              obtain ⟨ov, om⟩ := o
              have f_w := Prod.mk.inj (Option.some.inj f_w)
              have f1_w : ov = v_w := f_w.1
              have f2_w : om = c' := f_w.2
              rw [f1_w, f2_w, xe] at ho
              rw [xe] at g_w
              obtain ⟨⟨V, EN_w, va⟩, FR⟩ := endOf_w ha' g1 g3_w qM.1 (by rw [q2_w]; exact l34) (by rw [q2_w]; exact l35) hK_w.symm (by omega) (by omega) (by omega) ho
              have vb := ti_run g4 g3_w.2.2.2 EN_w hK_w.symm (by omega) (by omega) (by omega) g_w
              obtain ⟨r1_w, r2, r3, r4, r5_w⟩ := FR
              have c7_w : c'.2.2.1 1 7 = q_w.2.2.1 1 7 := r5_w 1 7 (by omega)
              refine ⟨Int32.toInt_inj.mp (va.trans vb.symm), R.1.frf (fun y_w k_w n1_w n2_w => by rw [r1_w y_w (by omega) (by omega)]; exact q1_w y_w k_w n1_w n2_w) (fun f_w => by rw [r5_w 1 f_w (by omega)]; exact q3_w 1 f_w (by omega)) kr', r4, ?_, fun _ => ?_⟩
              · rw [c7_w]
                exact qM.2.1.eqw (by rw [r1_w _ (by omega) (by omega)]) (r1_w _ (by omega) (by omega))
              · rw [c7_w]
                exact ⟨qG.eqw (fun b_w b1 b2 => r1_w b_w (by omega) (by omega)) (by rw [r1_w 30 (by decide) (by decide)]) (by rw [r1_w 30 (by decide) (by decide)]) (r1_w 31 (by decide) (by decide)) (r1_w 32 (by decide) (by decide)) (r1_w 33 (by decide) (by decide)), fun _ => (qS z0).eqw (fun b_w b1 b2 => r1_w b_w (by omega) (by omega)) (fun k_w _ => by rw [r1_w 30 (by decide) (by decide)]) (r1_w 31 (by decide) (by decide)) (r1_w 32 (by decide) (by decide)) (r1_w 33 (by decide) (by decide))⟩
          · have z1 : yq = 0 := z1
            rw [if_pos z0] at f_w
            rw [z1, if_neg (fun z_w => z_w rfl)] at g_w
            have f_w := Prod.mk.inj (Option.some.inj f_w)
            have g_w := Prod.mk.inj (Option.some.inj g_w)
            refine ⟨f_w.1.symm.trans g_w.1, ?_⟩
            rw [← f_w.2]
            exact ⟨R.1.frf q1_w (fun f_w => q3_w 1 f_w (by omega)) kr', qM⟩
    · rw [if_neg (fun q_w => q_w (di_ine.mpr c2_w))] at g_w
      have g_w := Prod.mk.inj (Option.some.inj g_w)
      by_cases c3_w : x2_w.toInt < 1
      · rw [if_pos c3_w] at f_w
        have f_w := Prod.mk.inj (Option.some.inj f_w)
        exact ⟨f_w.1.symm.trans g_w.1, nf_w f_w.2.symm⟩
      · rw [if_neg c3_w, if_neg (show ¬ x2_w.toInt ≤ 50 by omega)] at f_w
        have f_w := Prod.mk.inj (Option.some.inj f_w)
        exact ⟨f_w.1.symm.trans g_w.1, nf_w f_w.2.symm⟩
  · rw [if_pos (hv_0.mpr (fun q_w => c1_w (by rw [n1_w] at q_w; exact q_w)))] at f_w
    rw [if_pos ((ev_0 B_w.2.1).mpr c1_w)] at g_w
    have f_w := Prod.mk.inj (Option.some.inj f_w)
    have g_w := Prod.mk.inj (Option.some.inj g_w)
    exact ⟨f_w.1.symm.trans g_w.1, nf_w f_w.2.symm⟩
/-- beat -/
theorem RDw.q21w {x1_w : Int32} {c_w m_w c' m' : dc_M} {v_w v' : Int32} (l34 : (c_w.2.2.2 34).2 = 16) (l35 : (c_w.2.2.2 35).2 = 16) (R : RDw c_w m_w) (f_w : d_X9_beat 1 x1_w c_w = some (v_w, c')) (g_w : d_X10_beat 82 x1_w m_w = some (v', m')) : RDw c' m' := by
  have kr' : kr m_w m' := kr_X10_beat kr_of g_w
  have nf_w : c' = c_w → RDw c' m' := fun e_w => by
    rw [e_w]
    exact ⟨R.1.frf (fun _ _ _ _ => rfl) (fun _ => rfl) kr', R.2⟩
  unfold d_X9_beat at f_w
  by_cases c1_w : x1_w.toInt < 0
  · rw [if_pos c1_w] at f_w
    exact nf_w (Prod.mk.inj (Option.some.inj f_w)).2.symm
  · rw [if_neg c1_w] at f_w
    by_cases c2_w : x1_w.toInt ≤ 2
    · rw [if_pos c2_w] at f_w
      cases hq : d_X9_findRings 1 c_w with
      | none => rw [hq] at f_w; cases f_w
      | some q_w =>
        rw [hq, Option.bind_some] at f_w
        have e_w : q_w = c' := by
          split at f_w
          · split at f_w
            · split at f_w
              · split at f_w
                · exact (Prod.mk.inj (Option.some.inj f_w)).2
                · exact (Prod.mk.inj (Option.some.inj f_w)).2
              · exact (Prod.mk.inj (Option.some.inj f_w)).2
            · exact (Prod.mk.inj (Option.some.inj f_w)).2
          · exact (Prod.mk.inj (Option.some.inj f_w)).2
        obtain ⟨⟨q1_w, q2_w, q3_w⟩, qM, -⟩ := fr_w l34 l35 R hq
        rw [← e_w]
        exact ⟨R.1.frf q1_w (fun f_w => q3_w 1 f_w (by omega)) kr', qM⟩
    · rw [if_neg c2_w] at f_w
      exact nf_w (Prod.mk.inj (Option.some.inj f_w)).2.symm
