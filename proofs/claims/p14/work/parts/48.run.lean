/-! ===== the run of the law ===== -/
theorem rn_ob : ab_ob (p1_H.2.2 1) = some (9, [.ref 2, .ref 4, .ref 12, .ref 15, .ref 30, .ref 37, .ref 40, .ref 41, .ref 52, .ref 63, .ref 71, .int 0, .int 0, .int 0, .int 0, .int (-100), .int (-100)]) := by decide +kernel
theorem rn_n : (ab_ob (p1_H.2.2 2)).bind (fun q => q.2[8]?) = some .null := by decide +kernel
theorem rn_fd {g : ab_H} (h1 : g.1 = 120) (hc : ∀ a, 0 < a → a < 120 → g.2.2 a = p1_H.2.2 a) {a k : Nat} (ha : 0 < a) (ha2 : a < 120) (hk : k < 125) {v : Value} (hx : (ab_ob (p1_H.2.2 a)).bind (fun q => q.2[k]?) = some v) : sx_fd g (a * 128 + k) = some v := by
  cases e : ab_ob (p1_H.2.2 a) with
  | none => rw [e] at hx; cases hx
  | some q =>
    rw [e] at hx
    have hx : q.2[k]? = some v := hx
    have r : ab_rd g a = some (.inr q) := by
      unfold ab_rd
      rw [if_pos (by rw [h1]; exact ha2), hc a ha ha2, ab_ob_of (q := q) e]
    rw [sx_fd_o (ci := q.1) (ws := q.2) r (by omega)]
    exact hx
def rn_Q (r : Option Value) (h : ab_H) : Prop := r = some (.int 1) ∧ h.1 ≤ 600001 ∧ h.2.1 ≤ 7302250
theorem rn_18 {L : Nat} {xs : Nat → Int32} (hL : L ≤ 3072) (T : ∀ K, sx_mem sx_KT2 K → sx_holds sx_SP 21717 L xs K) {g : ab_H} (h1 : g.1 = 120) (h2 : g.2.1 = 21717) (h0 : g.2.2 0 = .inl (0, L, .inl xs)) (hc : ∀ a, 0 < a → a < 120 → g.2.2 a = p1_H.2.2 a) : ab_go 1000 ab_M_L_law 18 [(3, .int 0), (2, .ref 82), (1, .ref 1), (0, .ref 0)] [] g rn_Q := by
  have hh := si_h h1 h2 h0 hc
  have hr0 : ab_rd g 0 = some (.inl (0, L, .inl xs)) := by
    unfold ab_rd
    rw [if_pos (by rw [h1]; decide), h0]
  have hr1 : ab_rd g 1 = some (.inr (9, [.ref 2, .ref 4, .ref 12, .ref 15, .ref 30, .ref 37, .ref 40, .ref 41, .ref 52, .ref 63, .ref 71, .int 0, .int 0, .int 0, .int 0, .int (-100), .int (-100)])) := by
    unfold ab_rd
    rw [if_pos (by rw [h1]; decide), hc 1 (by decide) (by decide), ab_ob_of rn_ob]
  have hat : sx_at sx_SP 21717 L xs (cs_0 41 52) (fun s => if s = 1 then (L : Int) else 0) [(3, .int 0), (2, .ref 82), (1, .ref 1), (0, .ref 0)] [] g := by
    refine ⟨fun q hq => ?_, trivial, fun q hq => ?_, fun q hq => (by cases hq), fun q hq => ?_, fun q hq => (by cases hq), hh⟩
    · rcases List.mem_cons.mp hq with rfl | hq
      · exact ⟨_, rfl, rfl⟩
      rcases List.mem_cons.mp hq with rfl | hq
      · exact ⟨_, rfl, rfl⟩
      rcases List.mem_cons.mp hq with rfl | hq
      · exact ⟨_, rfl, rfl⟩
      rcases List.mem_cons.mp hq with rfl | hq
      · exact ⟨_, rfl, by show (0 : Int32).toInt = sx_ev _ (0, [(2, 1)]); rw [show sx_ev (fun s => if s = 1 then (L : Int) else 0) (0, [(2, 1)]) = 0 from sx_ev_Y _ 2]; rfl⟩
      cases hq
    · rcases List.mem_cons.mp hq with rfl | hq
      · refine ⟨.int (Int32.ofNat L), ?_, ?_⟩
        · unfold sx_fd
          rw [show 126 / 128 = 0 by decide, hr0]
          rfl
        · show (Int32.ofNat L).toInt = sx_ev _ (0, [(1, 1)])
          rw [Int32.toInt_ofNat_of_lt (by omega), show sx_ev (fun s => if s = 1 then (L : Int) else 0) (0, [(1, 1)]) = L from sx_ev_Y _ 1]
      rcases List.mem_cons.mp hq with rfl | hq
      · refine ⟨.ref 41, ?_, rfl⟩
        unfold sx_fd
        rw [show 135 / 128 = 1 by decide, hr1]
        rfl
      rcases List.mem_cons.mp hq with rfl | hq
      · refine ⟨.ref 52, ?_, rfl⟩
        unfold sx_fd
        rw [show 136 / 128 = 1 by decide, hr1]
        rfl
      cases hq
    · rcases List.mem_cons.mp hq with rfl | hq
      · show 0 ≤ (L : Int) ∧ (L : Int) ≤ 3072
        omega
      rcases List.mem_cons.mp hq with rfl | hq
      · show 0 ≤ (0 : Int) ∧ (0 : Int) ≤ 3072
        decide
      cases hq
  have hR : GR RBw g := by
    exact ⟨RBw.st hc, .null, rn_fd h1 hc (a := 2) (k := 8) (by decide) (by decide) (by decide) rn_n, Or.inl rfl⟩
  refine cs_loop (R := GR RBw) (Q := rn_Q) T (fun _ _ hh hh' hfr R => RBw.fr rfl hh hh' hfr R) (fun h hh => ⟨rfl, by rw [hh.1]; decide, by rw [hh.2.1]; decide⟩) (fun a b hm => ?_) 3072 41 52 _ _ g ?_ (Or.inl ⟨rfl, rfl⟩) hat hR
  · rcases hm with ⟨rfl, rfl⟩ | ⟨rfl, rfl⟩
    · exact cs_all0 hL T
    · exact cs_all1 hL T
  · show 3072 - (0 : Int) ≤ (3072 : Nat)
    decide
theorem rn_run {L : Nat} (hL : L ≤ 3072) (xs : Nat → Int32) (T : ∀ K, sx_mem sx_KT2 K → sx_holds sx_SP 21717 L xs K) : ∃ (n : Nat) (hF : ab_H), ab_ex ab_G n 1000 ab_M_L_law 0 [(0, .ref 0)] [] (ab_h0 L xs) = some (some (.int 1), hF) ∧ hF.1 ≤ 600001 ∧ hF.2.1 ≤ 7302250 := by
  have hgo : ab_go 1000 ab_M_L_law 0 [(0, .ref 0)] [] (ab_h0 L xs) rn_Q := by
    have s0 : ab_sim (fun a => a = 0) (1, 0, fun _ => ab_bad) (ab_h0 L xs) := ⟨rfl, rfl, fun a ha hS => by
      have ha : a < 1 := ha
      exact absurd (by omega) hS, fun a hS => ⟨by rw [show a = 0 from hS]; decide, rfl⟩⟩
    have s1 := s0.nw 17 (.inr (9, ab_df 9))
    refine go_s (pc' := 3) (lv' := [(0, .ref 0)]) (st' := [.ref 1]) (h' := ab_nw (ab_h0 L xs) 17 (.inr (9, ab_df 9))) rfl rfl rfl ?_
    refine go_s (pc' := 4) (lv' := [(0, .ref 0)]) (st' := [.ref 1, .ref 1]) (h' := ab_nw (ab_h0 L xs) 17 (.inr (9, ab_df 9))) rfl rfl rfl ?_
    refine go_c (M' := ab_M_X9_init) (A := [.ref 1]) (rest := [.ref 1]) rfl rfl rfl (lv0 := [(0, .ref 1)]) rfl (go_sim p1_Rb s1.1) (fun r0 g hr => ?_)
    obtain ⟨rfl, z1, w1, s2, f1⟩ := hr
    show ab_go 1000 ab_M_L_law 7 [(0, .ref 0)] [.ref 1] g _
    refine go_s (pc' := 8) (lv' := [(1, .ref 1), (0, .ref 0)]) (st' := []) rfl rfl rfl ?_
    have s3 := s2.nw 70 (.inr (10, ab_df 10))
    refine go_s (pc' := 11) (lv' := [(1, .ref 1), (0, .ref 0)]) (st' := [.ref 82]) (h' := ab_nw g 70 (.inr (10, ab_df 10))) rfl rfl (by show some (_, _, Value.ref g.1 :: _, _) = _; rw [z1]; rfl) ?_
    refine go_s (pc' := 12) (lv' := [(1, .ref 1), (0, .ref 0)]) (st' := [.ref 82, .ref 82]) (h' := ab_nw g 70 (.inr (10, ab_df 10))) rfl rfl rfl ?_
    refine go_c (M' := ab_M_X10_init) (A := [.ref 82]) (rest := [.ref 82]) rfl rfl rfl (lv0 := [(0, .ref 82)]) rfl (go_sim p1_RH s3.1) (fun r0 g2 hr => ?_)
    obtain ⟨rfl, z2, w2, s4, f2⟩ := hr
    show ab_go 1000 ab_M_L_law 15 [(1, .ref 1), (0, .ref 0)] [.ref 82] g2 _
    refine go_s (pc' := 16) (lv' := [(2, .ref 82), (1, .ref 1), (0, .ref 0)]) (st' := []) rfl rfl rfl ?_
    refine go_iconst (v := 0) rfl (by decide) ?_
    refine go_s (pc' := 18) (lv' := [(3, .int 0), (2, .ref 82), (1, .ref 1), (0, .ref 0)]) (st' := []) rfl rfl rfl ?_
    have hscr : g2.2.2 0 = .inl (0, L, .inl xs) := by
      rw [f2 0 rfl]
      show va_up g.2.2 g.1 _ 0 = _
      rw [va_up_ne _ _ (by rw [z1]; decide), f1 0 rfl]
      rfl
    have hcell : ∀ a, 0 < a → a < 120 → g2.2.2 a = p1_H.2.2 a := fun a h0 h1 => (s4.2.2.1 a (by rw [s4.1, z2]; exact h1) (fun z => by have z : a = 0 := z; omega)).symm
    exact rn_18 hL T z2 w2 hscr hcell
  obtain ⟨n, r, hF, hx, hr, h1, h2⟩ := hgo
  subst hr
  exact ⟨n, hF, hx, h1, h2⟩
