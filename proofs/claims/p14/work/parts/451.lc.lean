/-! ===== the law by cases (written by a program) ===== -/
def cs_S (a b : Nat) (e : sx_E) : sx_S := ([(0, .inr (1, 0)), (1, .inr (1, 1)), (2, .inr (1, 82)), (3, .inl (0, e))], [], [(126, .inl (0, sx_Y 1)), (135, .inr (1, a)), (136, .inr (1, b))], [], [(1, 6, 3072), (2, 0, 3066)], [(6, [(1, (-1)), (2, 1)])], 3)
def cs_0 (a b : Nat) : sx_S := ([(0, .inr (1, 0)), (1, .inr (1, 1)), (2, .inr (1, 82)), (3, .inl (0, sx_Y 2))], [], [(126, .inl (0, sx_Y 1)), (135, .inr (1, a)), (136, .inr (1, b))], [], [(1, 0, 3072), (2, 0, 3072)], [], 3)
def cs_P : sx_S := ([], [], [], [], [(1, 0, 3072), (2, 0, 3072)], [], 3)
def cs_K (mo : List Nat) (dp : Nat) : sx_KK := (9998, cs_P, mo, dp, [])
def cs_K0 : sx_KK := (9997, cs_P, [], 0, [([], [.inl (0, (1, []))], [], [], [], [], 3)])
def cs_hd : List sx_AA := [(18, cs_S 41 52 (6, [(2, 1)]), (0, [])), (18, cs_S 52 41 (6, [(2, 1)]), (0, []))]
/-- where the cases begin -/
def cs_tg : List Nat := [168, 221, 244, 257, 270, 303, 336, 369, 382, 395, 428, 451, 474, 497, 530, 563, 626, 639, 672, 705, 728, 761, 784, 817, 840, 853, 876, 919, 962, 1015, 1038]
def cs_an (a b : Nat) : List sx_AA := cs_tg.map (fun p => (p, cs_S a b (sx_Y 2), (0, [])))
theorem cs_sw0 : sx_run sx_SP sx_KT2 cs_K0 ab_M_L_law (cs_an 41 52) none 300 18 (cs_0 41 52) = true := by decide +kernel
theorem cs_sw1 : sx_run sx_SP sx_KT2 cs_K0 ab_M_L_law (cs_an 52 41) none 300 18 (cs_0 52 41) = true := by decide +kernel
section LC
variable {z L d : Nat} {xs : Nat → Int32} {Q : Option Value → ab_H → Prop} {R : ab_H → Prop}
def cs_md (a b : Nat) : Prop := (a = 41 ∧ b = 52) ∨ (a = 52 ∧ b = 41)
def cs_T (z L : Nat) (xs : Nat → Int32) : Prop := ∀ K, sx_mem sx_KT2 K → sx_holds sx_SP z L xs K
/-- what a case must do: come back to the head, six ints on, with R -/
def cs_step (z L d : Nat) (xs : Nat → Int32) (Q : Option Value → ab_H → Prop) (R : ab_H → Prop) (p a b : Nat) : Prop := ∀ (β : Nat → Int) (lv : ab_L) (h : ab_H), sx_at sx_SP z L xs (cs_S a b (sx_Y 2)) β lv [] h → R h → (∀ (a' b' : Nat) (β' : Nat → Int) (lv' : ab_L) (h' : ab_H), cs_md a' b' → sx_at sx_SP z L xs (cs_S a' b' (6, [(2, 1)])) β' lv' [] h' → sx_ag 3 β β' → R h' → ab_go d ab_M_L_law 18 lv' [] h' Q) → ab_go d ab_M_L_law p lv [] h Q
theorem cs_gen (T : cs_T z L xs) {mo : List Nat} {dp p a b : Nat} (hd : dp ≤ d) (hrun : sx_run sx_SP sx_KT2 (cs_K mo dp) ab_M_L_law cs_hd none 3000 p (cs_S a b (sx_Y 2)) = true) (hR : ∀ h h', sx_h sx_SP z L xs h → sx_h sx_SP z L xs h' → sx_fr mo h h' → R h → R h') : cs_step z L d xs Q R p a b := fun β lv h g r IH => by
  refine sx_seg (K := cs_K mo dp) (β0 := β) (h0 := h) (fun K' hm _ => T K' hm) hd (fun O hO => by cases hO) (fun r h' hp => by obtain ⟨O, hO, -⟩ := hp; cases hO) (fun q hq β2 lv' st h' g' hag hfr => ?_) 3000 p _ β lv [] h hrun (sx_wS_ok rfl g) sx_ag.rf (Nat.le_refl _) sx_fr.rf
  have key : ∀ a' b', cs_md a' b' → sx_at sx_SP z L xs (cs_S a' b' (6, [(2, 1)])) β2 lv' st h' → ab_go d ab_M_L_law 18 lv' st h' Q := fun a' b' hm g' => by
    have hst := ig_st0 g'.2.1
    subst hst
    exact IH a' b' β2 lv' h' hm g' hag (hR h h' g.2.2.2.2.2.2 g'.2.2.2.2.2.2 hfr r)
  rcases List.mem_cons.mp hq with rfl | hq
  · exact key 41 52 (Or.inl ⟨rfl, rfl⟩) g'
  rcases List.mem_cons.mp hq with rfl | hq
  · exact key 52 41 (Or.inr ⟨rfl, rfl⟩) g'
  cases hq
theorem cs_gr {P : Value → Prop} {β β' : Nat → Int} {q : Nat × Nat} (h : ∃ w, P w ∧ sx_v β (.inr q) w) : ∃ w, P w ∧ sx_v β' (.inr q) w := by
  obtain ⟨w, h1, h2⟩ := h
  refine ⟨w, h1, ?_⟩
  obtain ⟨t, a⟩ := q
  rcases t with _ | _ | _ | t <;> cases w <;> exact h2
/-- the next head is a head -/
theorem cs_nx {a b : Nat} {β : Nat → Int} {lv : ab_L} {h : ab_H} (g : sx_at sx_SP z L xs (cs_S a b (6, [(2, 1)])) β lv [] h) : sx_at sx_SP z L xs (cs_0 a b) (sx_bu β 2 (β 2 + 6)) lv [] h := by
  have e1 : sx_bu β 2 (β 2 + 6) 1 = β 1 := if_neg (by decide)
  have e2 : sx_bu β 2 (β 2 + 6) 2 = β 2 + 6 := if_pos rfl
  obtain ⟨g1, g2, g3, g4, g5, g6, g7⟩ := g
  have n1 : 6 ≤ β 1 ∧ β 1 ≤ 3072 := g5 (1, 6, 3072) List.mem_cons_self
  have n2 : 0 ≤ β 2 ∧ β 2 ≤ 3066 := g5 (2, 0, 3066) (List.mem_cons_of_mem _ List.mem_cons_self)
  have f1 := g6 (6, [(1, (-1)), (2, 1)]) List.mem_cons_self
  have f1 : 6 + ((-1) * β 1 + (1 * β 2 + 0)) ≤ 0 := f1
  refine ⟨fun q hq => ?_, g2, fun q hq => ?_, fun q hq => (by cases hq), fun q hq => ?_, fun q hq => (by cases hq), g7⟩
  · rcases List.mem_cons.mp hq with rfl | hq
    · exact cs_gr (g1 _ List.mem_cons_self)
    rcases List.mem_cons.mp hq with rfl | hq
    · exact cs_gr (g1 _ (List.mem_cons_of_mem _ List.mem_cons_self))
    rcases List.mem_cons.mp hq with rfl | hq
    · exact cs_gr (g1 _ (List.mem_cons_of_mem _ (List.mem_cons_of_mem _ List.mem_cons_self)))
    rcases List.mem_cons.mp hq with rfl | hq
    · obtain ⟨w, a1, a2⟩ := g1 (3, .inl (0, (6, [(2, 1)]))) (List.mem_cons_of_mem _ (List.mem_cons_of_mem _ (List.mem_cons_of_mem _ List.mem_cons_self)))
      refine ⟨w, a1, ?_⟩
      cases w with
      | int x =>
        have a2 : x.toInt = 6 + (1 * β 2 + 0) := a2
        show x.toInt = sx_ev _ (sx_Y 2)
        rw [sx_ev_Y, e2]
        omega
      | _ => exact a2.elim
    cases hq
  · rcases List.mem_cons.mp hq with rfl | hq
    · obtain ⟨w, a1, a2⟩ := g3 (126, .inl (0, sx_Y 1)) List.mem_cons_self
      refine ⟨w, a1, ?_⟩
      cases w with
      | int x =>
        have a2 : x.toInt = sx_ev β (sx_Y 1) := a2
        show x.toInt = sx_ev _ (sx_Y 1)
        rw [sx_ev_Y] at a2 ⊢
        rw [e1]
        exact a2
      | _ => exact a2.elim
    rcases List.mem_cons.mp hq with rfl | hq
    · exact cs_gr (g3 _ (List.mem_cons_of_mem _ List.mem_cons_self))
    rcases List.mem_cons.mp hq with rfl | hq
    · exact cs_gr (g3 _ (List.mem_cons_of_mem _ (List.mem_cons_of_mem _ List.mem_cons_self)))
    cases hq
  · rcases List.mem_cons.mp hq with rfl | hq
    · show 0 ≤ sx_bu β 2 (β 2 + 6) 1 ∧ sx_bu β 2 (β 2 + 6) 1 ≤ 3072
      rw [e1]
      omega
    rcases List.mem_cons.mp hq with rfl | hq
    · show 0 ≤ sx_bu β 2 (β 2 + 6) 2 ∧ sx_bu β 2 (β 2 + 6) 2 ≤ 3072
      rw [e2]
      omega
    cases hq
/-- the loop -/
theorem cs_loop (T : cs_T z L xs) (hR0 : ∀ h h', sx_h sx_SP z L xs h → sx_h sx_SP z L xs h' → sx_fr [] h h' → R h → R h') (hQ : ∀ h, sx_h sx_SP z L xs h → Q (some (.int 1)) h) (hs : ∀ a b, cs_md a b → ∀ p ∈ cs_tg, cs_step z L d xs Q R p a b) : ∀ (n a b : Nat) (β : Nat → Int) (lv : ab_L) (h : ab_H), 3072 - β 2 ≤ n → cs_md a b → sx_at sx_SP z L xs (cs_0 a b) β lv [] h → R h → ab_go d ab_M_L_law 18 lv [] h Q := by
  intro n
  induction n using Nat.strongRecOn with
  | ind n ih =>
    intro a b β lv h hn hm g r
    have hrun : sx_run sx_SP sx_KT2 cs_K0 ab_M_L_law (cs_an a b) none 300 18 (cs_0 a b) = true := by
      rcases hm with ⟨rfl, rfl⟩ | ⟨rfl, rfl⟩
      · exact cs_sw0
      · exact cs_sw1
    refine sx_seg (K := cs_K0) (β0 := β) (h0 := h) (fun K' hm _ => T K' hm) (Nat.zero_le _) (fun O hO => by rw [List.mem_singleton.mp hO]) (fun r h' hp => ?_) (fun q hq β2 lv' st h' g' hag hfr => ?_) 300 18 _ β lv [] h hrun (sx_wS_ok rfl g) sx_ag.rf (Nat.le_refl _) sx_fr.rf
    · obtain ⟨O, hO, β1, -, a2, -⟩ := hp
      have hO : O ∈ [(([], [.inl (0, (1, []))], [], [], [], [], 3) : sx_S)] := hO
      rw [List.mem_singleton] at hO
      subst hO
      obtain ⟨-, b2, -, -, -, -, bh⟩ := a2
      cases r with
      | none => exact b2.elim
      | some w =>
        have b3 := b2.1
        cases w with
        | int x =>
          have e : x.toInt = sx_ev β1 (1, []) := b3
          rw [show sx_ev β1 (1, []) = 1 from sx_ev_K β1 1] at e
          rw [show x = 1 from Int32.toInt_inj.mp e]
          exact hQ h' bh
        | _ => exact b3.elim
    · obtain ⟨p, hp, rfl⟩ := List.mem_map.mp hq
      have g' : sx_at sx_SP z L xs (cs_S a b (sx_Y 2)) β2 lv' st h' := g'
      have hst := ig_st0 g'.2.1
      subst hst
      have n2 := g'.2.2.2.2.1 (2, 0, 3066) (List.mem_cons_of_mem _ List.mem_cons_self)
      have n2 : 0 ≤ β2 2 ∧ β2 2 ≤ 3066 := n2
      have e2 : β2 2 = β 2 := hag 2 (by decide)
      refine hs a b hm p hp β2 lv' h' g' (hR0 h h' g.2.2.2.2.2.2 g'.2.2.2.2.2.2 hfr r) (fun a' b' β' lv2 h2 hm' g2 hag2 r2 => ?_)
      have e3 : β' 2 = β2 2 := hag2 2 (by decide)
      refine ih (n - 1) (by omega) a' b' (sx_bu β' 2 (β' 2 + 6)) lv2 h2 ?_ hm' (cs_nx g2) r2
      rw [show sx_bu β' 2 (β' 2 + 6) 2 = β' 2 + 6 from if_pos rfl]
      omega
end LC

def cs_m_257_0 : List Nat := []
theorem cs_r_257_0 : sx_run sx_SP sx_KT2 (cs_K cs_m_257_0 1) ab_M_L_law cs_hd none 3000 257 (cs_S 41 52 (sx_Y 2)) = true := by decide +kernel
def cs_m_257_1 : List Nat := []
theorem cs_r_257_1 : sx_run sx_SP sx_KT2 (cs_K cs_m_257_1 1) ab_M_L_law cs_hd none 3000 257 (cs_S 52 41 (sx_Y 2)) = true := by decide +kernel
def cs_m_270_0 : List Nat := []
theorem cs_r_270_0 : sx_run sx_SP sx_KT2 (cs_K cs_m_270_0 3) ab_M_L_law cs_hd none 3000 270 (cs_S 41 52 (sx_Y 2)) = true := by decide +kernel
def cs_m_270_1 : List Nat := []
theorem cs_r_270_1 : sx_run sx_SP sx_KT2 (cs_K cs_m_270_1 3) ab_M_L_law cs_hd none 3000 270 (cs_S 52 41 (sx_Y 2)) = true := by decide +kernel
def cs_m_303_0 : List Nat := []
theorem cs_r_303_0 : sx_run sx_SP sx_KT2 (cs_K cs_m_303_0 3) ab_M_L_law cs_hd none 3000 303 (cs_S 41 52 (sx_Y 2)) = true := by decide +kernel
def cs_m_303_1 : List Nat := []
theorem cs_r_303_1 : sx_run sx_SP sx_KT2 (cs_K cs_m_303_1 3) ab_M_L_law cs_hd none 3000 303 (cs_S 52 41 (sx_Y 2)) = true := by decide +kernel
def cs_m_336_0 : List Nat := []
theorem cs_r_336_0 : sx_run sx_SP sx_KT2 (cs_K cs_m_336_0 2) ab_M_L_law cs_hd none 3000 336 (cs_S 41 52 (sx_Y 2)) = true := by decide +kernel
def cs_m_336_1 : List Nat := []
theorem cs_r_336_1 : sx_run sx_SP sx_KT2 (cs_K cs_m_336_1 2) ab_M_L_law cs_hd none 3000 336 (cs_S 52 41 (sx_Y 2)) = true := by decide +kernel
def cs_m_761_0 : List Nat := [142, 3840, 3841, 3842, 3843, 3847, 3848, 3849, 4093, 4095, 4221, 4223, 4349, 4351, 4477, 4479, 4605, 4607, 4733, 4735, 14207, 14333, 14335, 14461, 14463]
theorem cs_r_761_0 : sx_run sx_SP sx_KT2 (cs_K cs_m_761_0 7) ab_M_L_law cs_hd none 3000 761 (cs_S 41 52 (sx_Y 2)) = true := by decide +kernel
def cs_m_761_1 : List Nat := [142, 3840, 3841, 3842, 3843, 3847, 3848, 3849, 4093, 4095, 4221, 4223, 4349, 4351, 4477, 4479, 4605, 4607, 4733, 4735, 14207, 14333, 14335, 14461, 14463]
theorem cs_r_761_1 : sx_run sx_SP sx_KT2 (cs_K cs_m_761_1 7) ab_M_L_law cs_hd none 3000 761 (cs_S 52 41 (sx_Y 2)) = true := by decide +kernel
def cs_m_784_0 : List Nat := [142, 3840, 3841, 3842, 3843, 3847, 3848, 3849, 4093, 4095, 4221, 4223, 4349, 4351, 4477, 4479, 4605, 4607, 4733, 4735, 14207, 14333, 14335, 14461, 14463, 14589, 14591, 14717, 14719]
theorem cs_r_784_0 : sx_run sx_SP sx_KT2 (cs_K cs_m_784_0 7) ab_M_L_law cs_hd none 3000 784 (cs_S 41 52 (sx_Y 2)) = true := by decide +kernel
def cs_m_784_1 : List Nat := [142, 3840, 3841, 3842, 3843, 3847, 3848, 3849, 4093, 4095, 4221, 4223, 4349, 4351, 4477, 4479, 4605, 4607, 4733, 4735, 14207, 14333, 14335, 14461, 14463, 14589, 14591, 14717, 14719]
theorem cs_r_784_1 : sx_run sx_SP sx_KT2 (cs_K cs_m_784_1 7) ab_M_L_law cs_hd none 3000 784 (cs_S 52 41 (sx_Y 2)) = true := by decide +kernel
def cs_m_853_0 : List Nat := []
theorem cs_r_853_0 : sx_run sx_SP sx_KT2 (cs_K cs_m_853_0 3) ab_M_L_law cs_hd none 3000 853 (cs_S 41 52 (sx_Y 2)) = true := by decide +kernel
def cs_m_853_1 : List Nat := []
theorem cs_r_853_1 : sx_run sx_SP sx_KT2 (cs_K cs_m_853_1 3) ab_M_L_law cs_hd none 3000 853 (cs_S 52 41 (sx_Y 2)) = true := by decide +kernel
def cs_m_962_0 : List Nat := []
theorem cs_r_962_0 : sx_run sx_SP sx_KT2 (cs_K cs_m_962_0 3) ab_M_L_law cs_hd none 3000 962 (cs_S 41 52 (sx_Y 2)) = true := by decide +kernel
def cs_m_962_1 : List Nat := []
theorem cs_r_962_1 : sx_run sx_SP sx_KT2 (cs_K cs_m_962_1 3) ab_M_L_law cs_hd none 3000 962 (cs_S 52 41 (sx_Y 2)) = true := by decide +kernel
def cs_m_1015_0 : List Nat := []
theorem cs_r_1015_0 : sx_run sx_SP sx_KT2 (cs_K cs_m_1015_0 2) ab_M_L_law cs_hd none 3000 1015 (cs_S 41 52 (sx_Y 2)) = true := by decide +kernel
def cs_m_1015_1 : List Nat := []
theorem cs_r_1015_1 : sx_run sx_SP sx_KT2 (cs_K cs_m_1015_1 2) ab_M_L_law cs_hd none 3000 1015 (cs_S 52 41 (sx_Y 2)) = true := by decide +kernel
def cs_m_1038_0 : List Nat := []
theorem cs_r_1038_0 : sx_run sx_SP sx_KT2 (cs_K cs_m_1038_0 0) ab_M_L_law cs_hd none 3000 1038 (cs_S 41 52 (sx_Y 2)) = true := by decide +kernel
def cs_m_1038_1 : List Nat := []
theorem cs_r_1038_1 : sx_run sx_SP sx_KT2 (cs_K cs_m_1038_1 0) ab_M_L_law cs_hd none 3000 1038 (cs_S 52 41 (sx_Y 2)) = true := by decide +kernel
