/-! ===== the sheets of both sides ===== -/
def sh_r (c a b : Int32) : Prop := (c.toInt = -1 ∧ a.toInt = -4) ∨ (c.toInt = b.toInt ∧ (0 ≤ a.toInt ∧ a.toInt ≤ 2) ∧ 0 ≤ b.toInt ∧ b.toInt ≤ 64)
def sh_R (h : ab_H) : Prop := ∃ la le : Nat → Int32, ab_rd h 117 = some (.inl (0, 4, .inl la)) ∧ ab_rd h 118 = some (.inl (0, 4, .inl le)) ∧ ∀ j, j < 4 → ∃ c : Int32, sx_fd h ((74 + 2 * j) * 128 + 0) = some (.int c) ∧ sh_r c (la j) (le j)
def sh_D : List Nat := [9472, 9728, 9984, 10240, 15103, 15231]
section SH2
variable {z L d : Nat} {xs : Nat → Int32} {h h' : ab_H} {Q : Option Value → ab_H → Prop}
theorem sh_arr {mo : List Nat} (hfr : sx_fr mo h h') {a n : Nat} {u v : Nat → Int32} (hm : mo.contains (a * 128 + 127) = false) (hu : ab_rd h a = some (.inl (0, n, .inl u))) (hv : ab_rd h' a = some (.inl (0, n, .inl v))) : v = u := by
  have k := hfr (a * 128 + 127) hm
  unfold sx_ob at k
  rw [if_pos (by omega), if_pos (by omega), show (a * 128 + 127) / 128 = a by omega, (ab_rd_of hu).2, (ab_rd_of hv).2] at k
  cases k
  rfl
theorem sh_c {mo : List Nat} (hD : sh_D.all (fun k => !mo.contains k) = true) {k : Nat} (hk : k ∈ sh_D) : mo.contains k = false := by
  have q := List.all_eq_true.mp hD k hk
  cases hc : mo.contains k with
  | false => rfl
  | true => rw [hc] at q; cases q
theorem sh_fr {mo : List Nat} (hD : sh_D.all (fun k => !mo.contains k) = true) (hh' : sx_h sx_SP z L xs h') (hfr : sx_fr mo h h') (R : sh_R h) : sh_R h' := by
  obtain ⟨la, le, r1, r2, hj⟩ := R
  obtain ⟨la', r1', -⟩ := nw_a (a := 117) (t := 0) (m := 4) rfl (by decide) (by decide) hh'
  obtain ⟨le', r2', -⟩ := nw_a (a := 118) (t := 0) (m := 4) rfl (by decide) (by decide) hh'
  have e1 := sh_arr hfr (sh_c hD (by decide)) r1 r1'
  have e2 := sh_arr hfr (sh_c hD (by decide)) r2 r2'
  subst e1 e2
  refine ⟨la', le', r1', r2', fun j h4 => ?_⟩
  obtain ⟨c, c1, c2⟩ := hj j h4
  have hm : mo.contains ((74 + 2 * j) * 128 + 0) = false := by
    rcases (show j = 0 ∨ j = 1 ∨ j = 2 ∨ j = 3 by omega) with rfl | rfl | rfl | rfl <;> exact sh_c hD (by decide)
  exact ⟨c, (sx_fr_fd hfr hm (by omega)).trans c1, c2⟩
/-- the script's cells -/
theorem sh_el {a b : Nat} {e : sx_E} {β : Nat → Int} {lv : ab_L} (hL : L ≤ 3072) (g : sx_at sx_SP z L xs (cs_S a b e) β lv [] h) : ab_rd h 0 = some (.inl (0, L, .inl xs)) ∧ β 1 = L ∧ 0 ≤ β 2 ∧ β 2 + 6 ≤ L := by
  obtain ⟨-, -, g3, -, g5, g6, hh⟩ := g
  have r0 : ab_rd h 0 = some (.inl (0, L, .inl xs)) := by
    unfold ab_rd
    rw [if_pos (by rw [hh.1]; decide), hh.2.2.1]
  obtain ⟨w, w1, w2⟩ := g3 (126, .inl (0, sx_Y 1)) List.mem_cons_self
  have w1 : sx_fd h 126 = some w := w1
  unfold sx_fd at w1
  rw [show 126 / 128 = 0 by decide, r0] at w1
  have w1 : some (Value.int (Int32.ofNat L)) = some w := w1
  cases w1
  have w2 : (Int32.ofNat L).toInt = sx_ev β (sx_Y 1) := w2
  rw [sx_ev_Y, Int32.toInt_ofNat_of_lt (by omega)] at w2
  have n2 : 0 ≤ β 2 ∧ β 2 ≤ 3066 := g5 (2, 0, 3066) (List.mem_cons_of_mem _ List.mem_cons_self)
  have f1 : 6 + ((-1) * β 1 + (1 * β 2 + 0)) ≤ 0 := g6 (6, [(1, (-1)), (2, 1)]) List.mem_cons_self
  exact ⟨r0, w2.symm, n2.1, by omega⟩
def sh_lo : List (Nat × sx_V) := [(0, .inr (1, 0)), (1, .inr (1, 1)), (2, .inr (1, 82)), (3, .inl (0, sx_Y 2))]
def sh_fa : List sx_E := [(6, [(1, (-1)), (2, 1)])]
theorem sh_lo_ok {a b : Nat} {β β' : Nat → Int} {lv : ab_L} (g : sx_at sx_SP z L xs (cs_S a b (sx_Y 2)) β lv [] h) (hag : sx_ag 3 β β') : ∀ q ∈ sh_lo, ∃ w, ab_lk lv q.1 = some w ∧ sx_v β' q.2 w := fun q hq => by
  rcases List.mem_cons.mp hq with rfl | hq
  · exact cs_gr (g.1 _ List.mem_cons_self)
  rcases List.mem_cons.mp hq with rfl | hq
  · exact cs_gr (g.1 _ (List.mem_cons_of_mem _ List.mem_cons_self))
  rcases List.mem_cons.mp hq with rfl | hq
  · exact cs_gr (g.1 _ (List.mem_cons_of_mem _ (List.mem_cons_of_mem _ List.mem_cons_self)))
  rcases List.mem_cons.mp hq with rfl | hq
  · obtain ⟨x, a1, a2⟩ := g.lkI (i := 3) (e := sx_Y 2) (List.mem_cons_of_mem _ (List.mem_cons_of_mem _ (List.mem_cons_of_mem _ List.mem_cons_self)))
    rw [sx_ev_Y] at a2
    refine ⟨_, a1, ?_⟩
    show x.toInt = sx_ev β' (sx_Y 2)
    rw [sx_ev_Y, hag 2 (by decide)]
    exact a2
  cases hq
theorem sh_fi_ok {a b : Nat} {β β' : Nat → Int} {lv : ab_L} (g : sx_at sx_SP z L xs (cs_S a b (sx_Y 2)) β lv [] h) (hag : sx_ag 3 β β') : ∀ q ∈ ([(126, .inl (0, sx_Y 1)), (135, .inr (1, a)), (136, .inr (1, b))] : List (Nat × sx_V)), ∃ w, sx_fd h q.1 = some w ∧ sx_v β' q.2 w := fun q hq => by
  rcases List.mem_cons.mp hq with rfl | hq
  · obtain ⟨x, a1, a2⟩ := g.fdI (k := 126) (e := sx_Y 1) List.mem_cons_self
    rw [sx_ev_Y] at a2
    refine ⟨_, a1, ?_⟩
    show x.toInt = sx_ev β' (sx_Y 1)
    rw [sx_ev_Y, hag 1 (by decide)]
    exact a2
  rcases List.mem_cons.mp hq with rfl | hq
  · exact cs_gr (g.2.2.1 _ (List.mem_cons_of_mem _ List.mem_cons_self))
  rcases List.mem_cons.mp hq with rfl | hq
  · exact cs_gr (g.2.2.1 _ (List.mem_cons_of_mem _ (List.mem_cons_of_mem _ List.mem_cons_self)))
  cases hq
theorem sh_fa_ok {a b : Nat} {e : sx_E} {β β' : Nat → Int} {lv : ab_L} (g : sx_at sx_SP z L xs (cs_S a b e) β lv [] h) (hag : sx_ag 3 β β') : ∀ f ∈ sh_fa, sx_ev β' f ≤ 0 := fun f hf => by
  have hf : f ∈ [((6 : Int), [((1 : Nat), (-1 : Int)), (2, 1)])] := hf
  rw [List.mem_singleton] at hf
  subst hf
  have f1 : 6 + ((-1) * β 1 + (1 * β 2 + 0)) ≤ 0 := g.2.2.2.2.2.1 (6, [(1, (-1)), (2, 1)]) List.mem_cons_self
  show 6 + ((-1) * β' 1 + (1 * β' 2 + 0)) ≤ 0
  rw [hag 1 (by decide), hag 2 (by decide)]
  exact f1
theorem sh_bd {a b : Nat} {e : sx_E} {β β' : Nat → Int} {lv : ab_L} (g : sx_at sx_SP z L xs (cs_S a b e) β lv [] h) (hag : sx_ag 3 β β') : (6 ≤ β' 1 ∧ β' 1 ≤ 3072) ∧ 0 ≤ β' 2 ∧ β' 2 ≤ 3066 := by
  rw [hag 1 (by decide), hag 2 (by decide)]
  exact ⟨g.2.2.2.2.1 (1, 6, 3072) List.mem_cons_self, g.2.2.2.2.1 (2, 0, 3066) (List.mem_cons_of_mem _ List.mem_cons_self)⟩
/-- an element of an array of ints -/
theorem sh_e1 {β : Nat → Int} {a n i : Nat} {f : Nat → Int32} (hr : ab_rd h a = some (.inl (0, n, .inl f))) (hi : i < n) {e : sx_E} (he : sx_ev β e = i) {v : sx_V} (hv : sx_v β v (.int (f i))) : sx_el β (a, e, v) h := by
  unfold sx_el
  dsimp only
  rw [hr]
  dsimp only
  rw [he]
  exact ⟨by omega, by omega, by rw [Int.toNat_natCast]; exact hv⟩
/-! ===== lay ===== -/
def l27_o (a b : Nat) (l u : Int) : sx_S := (sh_lo, [], [(126, .inl (0, sx_Y 1)), (135, .inr (1, a)), (136, .inr (1, b))], [(0, (1, [(2, 1)]), .inl (0, sx_Y 3))], [(1, 6, 3072), (2, 0, 3066), (3, l, u)], sh_fa, 4)
def l27_n (a b j : Nat) : sx_S := (sh_lo, [], [(126, .inl (0, sx_Y 1)), (135, .inr (1, a)), (136, .inr (1, b)), ((74 + 2 * j) * 128 + 0, .inl (0, ((-1), [])))], [(0, (1, [(2, 1)]), .inl (0, sx_Y 3)), (117, sx_Y 3, .inl (0, ((-4), [])))], [(1, 6, 3072), (2, 0, 3066), (3, j, j)], sh_fa, 4)
def l27_s (a b j : Nat) : sx_S := (sh_lo, [], [(126, .inl (0, sx_Y 1)), (135, .inr (1, a)), (136, .inr (1, b)), ((74 + 2 * j) * 128 + 0, .inl (0, sx_Y 5))], [(0, (1, [(2, 1)]), .inl (0, sx_Y 3)), (117, sx_Y 3, .inl (0, sx_Y 4)), (118, sx_Y 3, .inl (0, sx_Y 5))], [(1, 6, 3072), (2, 0, 3066), (3, j, j), (4, 0, 2), (5, 0, 64)], sh_fa, 6)
theorem sh_oN {N : sx_N} {β : Nat → Int} (q : ∀ s l u, (s, l, u) ∈ N → l ≤ β s ∧ β s ≤ u) : sx_oN N β := fun x hx => q x.1 x.2.1 x.2.2 hx
def l27_K (mo : List Nat) (dp : Nat) : sx_KK := cs_K mo dp
theorem l27_seg (T : cs_T z L xs) {R : ab_H → Prop} {mo : List Nat} {dp p : Nat} (hd : dp ≤ d) {A : sx_S} (hw : sx_wS A = true) (hA : 3 ≤ sx_nx A) (hrun : sx_run sx_SP sx_KT2 (cs_K mo dp) ab_M_L_law cs_hd none 3000 p A = true) (hR : ∀ h h', sx_h sx_SP z L xs h → sx_h sx_SP z L xs h' → sx_fr mo h h' → R h → R h') {β β' : Nat → Int} (hag : sx_ag 3 β β') {lv : ab_L} {st : List Value} {h : ab_H} (g : sx_at sx_SP z L xs A β' lv st h) (r : R h) (IH : ∀ (a' b' : Nat) (β' : Nat → Int) (lv' : ab_L) (h' : ab_H), cs_md a' b' → sx_at sx_SP z L xs (cs_S a' b' (6, [(2, 1)])) β' lv' [] h' → sx_ag 3 β β' → R h' → ab_go d ab_M_L_law 18 lv' [] h' Q) : ab_go d ab_M_L_law p lv st h Q := by
  refine sx_seg (K := cs_K mo dp) (β0 := β) (h0 := h) (fun K' hm _ => T K' hm) hd (fun O hO => by cases hO) (fun r h' hp => by obtain ⟨O, hO, -⟩ := hp; cases hO) (fun q hq β2 lv' st h' g' hag2 hfr => ?_) 3000 p A β' lv st h hrun (sx_wS_ok hw g) hag hA sx_fr.rf
  have key : ∀ a' b', cs_md a' b' → sx_at sx_SP z L xs (cs_S a' b' (6, [(2, 1)])) β2 lv' st h' → ab_go d ab_M_L_law 18 lv' st h' Q := fun a' b' hm g' => by
    have hst := ig_st0 g'.2.1
    subst hst
    exact IH a' b' β2 lv' h' hm g' hag2 (hR h h' g.2.2.2.2.2.2 g'.2.2.2.2.2.2 hfr r)
  rcases List.mem_cons.mp hq with rfl | hq
  · exact key 41 52 (Or.inl ⟨rfl, rfl⟩) g'
  rcases List.mem_cons.mp hq with rfl | hq
  · exact key 52 41 (Or.inr ⟨rfl, rfl⟩) g'
  cases hq
theorem sh_ag3 {β : Nat → Int} {v : Int} {s : Nat} (hs : 3 ≤ s) : sx_ag 3 β (sx_bu β s v) := fun t ht => if_neg (by omega)
theorem sh_ag.tr {n : Nat} {a b c : Nat → Int} (x : sx_ag n a b) (y : sx_ag n b c) : sx_ag n a c := fun s hs => (y s hs).trans (x s hs)
/-- lay, from its place on; the runs of the checker are told -/
def l27_ru (a b p : Nat) (mo : List Nat) (dp : Nat) : Prop := (∀ (l u : Int), (l = -2147483648 ∧ u = -1) ∨ (l = 4 ∧ u = 2147483647) → sx_run sx_SP sx_KT2 (cs_K mo dp) ab_M_L_law cs_hd none 3000 p (l27_o a b l u) = true) ∧ ∀ j, j < 4 → sx_run sx_SP sx_KT2 (cs_K mo dp) ab_M_L_law cs_hd none 3000 p (l27_n a b j) = true ∧ sx_run sx_SP sx_KT2 (cs_K mo dp) ab_M_L_law cs_hd none 3000 p (l27_s a b j) = true
theorem l27_step (hL : L ≤ 3072) (T : cs_T z L xs) {a b p dp : Nat} {mo : List Nat} (hD : sh_D.all (fun k => !mo.contains k) = true) (hd : dp ≤ d) (hr : l27_ru a b p mo dp) : cs_step z L d xs Q sh_R p a b := fun β lv h g R IH => by
  obtain ⟨r0, b1, b2, b3⟩ := sh_el hL g
  have hR : ∀ h h', sx_h sx_SP z L xs h → sx_h sx_SP z L xs h' → sx_fr mo h h' → sh_R h → sh_R h' := fun _ _ _ hh' hfr R => sh_fr hD hh' hfr R
  obtain ⟨i, hi⟩ : ∃ i : Nat, β 2 = i := ⟨(β 2).toNat, by omega⟩
  have hidx : i + 1 < L := by omega
  -- the symbols
  have e : ∀ (A B C : Int), sx_bu (sx_bu (sx_bu β 3 A) 4 B) 5 C 3 = A ∧ sx_bu (sx_bu (sx_bu β 3 A) 4 B) 5 C 4 = B ∧ sx_bu (sx_bu (sx_bu β 3 A) 4 B) 5 C 5 = C := fun A B C => ⟨rfl, rfl, rfl⟩
  have hag : ∀ (A B C : Int), sx_ag 3 β (sx_bu (sx_bu (sx_bu β 3 A) 4 B) 5 C) := fun A B C => sh_ag.tr (sh_ag.tr (sh_ag3 (by decide)) (sh_ag3 (by decide))) (sh_ag3 (by decide))
  have el0 : ∀ (B C : Int), sx_el (sx_bu (sx_bu (sx_bu β 3 (xs (i + 1)).toInt) 4 B) 5 C) (0, (1, [(2, 1)]), .inl (0, sx_Y 3)) h := fun B C => sh_e1 (i := i + 1) r0 hidx (by show 1 + (1 * β 2 + 0) = ((i + 1 : Nat) : Int); omega) (by show (xs (i + 1)).toInt = sx_ev _ (sx_Y 3); rw [sx_ev_Y]; rfl)
  have out : ∀ l u : Int, (l = -2147483648 ∧ u = -1) ∨ (l = 4 ∧ u = 2147483647) → l ≤ (xs (i + 1)).toInt → (xs (i + 1)).toInt ≤ u → ab_go d ab_M_L_law p lv [] h Q := fun l u hlu q1 q2 => by
    refine l27_seg T hd (A := l27_o a b l u) (by rcases hlu with ⟨rfl, rfl⟩ | ⟨rfl, rfl⟩ <;> rfl) (by decide) (hr.1 l u hlu) hR (hag (xs (i + 1)).toInt 0 0) ⟨sh_lo_ok g (hag _ _ _), trivial, sh_fi_ok g (hag _ _ _), fun q hq => ?_, sh_oN (fun s l' u' hs => ?_), sh_fa_ok g (hag _ _ _), g.2.2.2.2.2.2⟩ R IH
    · rcases List.mem_cons.mp hq with rfl | hq
      · exact el0 0 0
      cases hq
    · rcases List.mem_cons.mp hs with q | hs
      · cases q; exact (sh_bd g (hag _ _ _)).1
      rcases List.mem_cons.mp hs with q | hs
      · cases q; exact (sh_bd g (hag _ _ _)).2
      rcases List.mem_cons.mp hs with q | hs
      · cases q; exact ⟨q1, q2⟩
      cases hs
  rcases (show (xs (i + 1)).toInt ≤ -1 ∨ 4 ≤ (xs (i + 1)).toInt ∨ (0 ≤ (xs (i + 1)).toInt ∧ (xs (i + 1)).toInt ≤ 3) by omega) with q | q | q
  · exact out _ _ (Or.inl ⟨rfl, rfl⟩) (by have := (xs (i + 1)).le_toInt; omega) q
  · exact out _ _ (Or.inr ⟨rfl, rfl⟩) q (by have := (xs (i + 1)).toInt_lt; omega)
  obtain ⟨j, hj⟩ : ∃ j : Nat, (xs (i + 1)).toInt = j := ⟨(xs (i + 1)).toInt.toNat, by omega⟩
  have hj4 : j < 4 := by omega
  have R0 := R
  obtain ⟨la, le, m1, m2, hsh⟩ := R
  obtain ⟨c, c1, c2⟩ := hsh j hj4
  rcases c2 with ⟨c2, c3⟩ | ⟨c2, c3, c4⟩
  · refine l27_seg T hd (A := l27_n a b j) (by rcases (show j = 0 ∨ j = 1 ∨ j = 2 ∨ j = 3 by omega) with rfl | rfl | rfl | rfl <;> rfl) (by show 3 ≤ 4; decide) (hr.2 j hj4).1 hR (hag (xs (i + 1)).toInt 0 0) ⟨sh_lo_ok g (hag _ _ _), trivial, fun q hq => ?_, fun q hq => ?_, sh_oN (fun s l' u' hs => ?_), sh_fa_ok g (hag _ _ _), g.2.2.2.2.2.2⟩ R0 IH
    · rcases List.mem_cons.mp hq with rfl | hq
      · exact sh_fi_ok g (hag _ _ _) _ List.mem_cons_self
      rcases List.mem_cons.mp hq with rfl | hq
      · exact sh_fi_ok g (hag _ _ _) _ (List.mem_cons_of_mem _ List.mem_cons_self)
      rcases List.mem_cons.mp hq with rfl | hq
      · exact sh_fi_ok g (hag _ _ _) _ (List.mem_cons_of_mem _ (List.mem_cons_of_mem _ List.mem_cons_self))
      rcases List.mem_cons.mp hq with rfl | hq
      · exact ⟨_, c1, by show c.toInt = sx_ev _ ((-1), []); rw [sx_ev_K]; exact c2⟩
      cases hq
    · rcases List.mem_cons.mp hq with rfl | hq
      · exact el0 0 0
      rcases List.mem_cons.mp hq with rfl | hq
      · exact sh_e1 (i := j) m1 hj4 (by rw [sx_ev_Y]; exact hj) (by show (la j).toInt = sx_ev _ ((-4), []); rw [sx_ev_K]; exact c3)
      cases hq
    · rcases List.mem_cons.mp hs with q | hs
      · cases q; exact (sh_bd g (hag _ _ _)).1
      rcases List.mem_cons.mp hs with q | hs
      · cases q; exact (sh_bd g (hag _ _ _)).2
      rcases List.mem_cons.mp hs with q | hs
      · cases q; show (j : Int) ≤ (xs (i + 1)).toInt ∧ (xs (i + 1)).toInt ≤ j; omega
      cases hs
  · refine l27_seg T hd (A := l27_s a b j) (by rcases (show j = 0 ∨ j = 1 ∨ j = 2 ∨ j = 3 by omega) with rfl | rfl | rfl | rfl <;> rfl) (by show 3 ≤ 6; decide) (hr.2 j hj4).2 hR (hag (xs (i + 1)).toInt (la j).toInt (le j).toInt) ⟨sh_lo_ok g (hag _ _ _), trivial, fun q hq => ?_, fun q hq => ?_, sh_oN (fun s l' u' hs => ?_), sh_fa_ok g (hag _ _ _), g.2.2.2.2.2.2⟩ R0 IH
    · rcases List.mem_cons.mp hq with rfl | hq
      · exact sh_fi_ok g (hag _ _ _) _ List.mem_cons_self
      rcases List.mem_cons.mp hq with rfl | hq
      · exact sh_fi_ok g (hag _ _ _) _ (List.mem_cons_of_mem _ List.mem_cons_self)
      rcases List.mem_cons.mp hq with rfl | hq
      · exact sh_fi_ok g (hag _ _ _) _ (List.mem_cons_of_mem _ (List.mem_cons_of_mem _ List.mem_cons_self))
      rcases List.mem_cons.mp hq with rfl | hq
      · exact ⟨_, c1, by show c.toInt = sx_ev _ (sx_Y 5); rw [sx_ev_Y]; exact c2⟩
      cases hq
    · rcases List.mem_cons.mp hq with rfl | hq
      · exact el0 _ _
      rcases List.mem_cons.mp hq with rfl | hq
      · exact sh_e1 (i := j) m1 hj4 (by rw [sx_ev_Y]; exact hj) (by show (la j).toInt = sx_ev _ (sx_Y 4); rw [sx_ev_Y]; rfl)
      rcases List.mem_cons.mp hq with rfl | hq
      · exact sh_e1 (i := j) m2 hj4 (by rw [sx_ev_Y]; exact hj) (by show (le j).toInt = sx_ev _ (sx_Y 5); rw [sx_ev_Y]; rfl)
      cases hq
    · rcases List.mem_cons.mp hs with q | hs
      · cases q; exact (sh_bd g (hag _ _ _)).1
      rcases List.mem_cons.mp hs with q | hs
      · cases q; exact (sh_bd g (hag _ _ _)).2
      rcases List.mem_cons.mp hs with q | hs
      · cases q; show (j : Int) ≤ (xs (i + 1)).toInt ∧ (xs (i + 1)).toInt ≤ j; omega
      rcases List.mem_cons.mp hs with q | hs
      · cases q; exact c3
      rcases List.mem_cons.mp hs with q | hs
      · cases q; exact c4
      cases hs
/-! ===== sheet ===== -/
def l26_fi (a b : Nat) (e0 e1 e2 e3 : sx_E) : List (Nat × sx_V) := [(126, .inl (0, sx_Y 1)), (135, .inr (1, a)), (136, .inr (1, b)), (9472, .inl (0, e0)), (9728, .inl (0, e1)), (9984, .inl (0, e2)), (10240, .inl (0, e3))]
def l26_N (l3 u3 l4 u4 l5 u5 : Int) : sx_N := [(1, 6, 3072), (2, 0, 3066), (3, l3, u3), (4, l4, u4), (5, l5, u5), (6, (-1), 64), (7, (-1), 64), (8, (-1), 64), (9, (-1), 64)]
def l26_A (a b : Nat) : sx_S := (sh_lo, [], l26_fi a b (sx_Y 6) (sx_Y 7) (sx_Y 8) (sx_Y 9), [(0, (1, [(2, 1)]), .inl (0, sx_Y 3)), (0, (2, [(2, 1)]), .inl (0, sx_Y 4)), (0, (3, [(2, 1)]), .inl (0, sx_Y 5))], l26_N (-2147483648) 2147483647 (-2147483648) 2147483647 (-2147483648) 2147483647, sh_fa, 10)
def l26_P (a b : Nat) (l3 u3 l4 u4 l5 u5 : Int) (e0 e1 e2 e3 : sx_E) : sx_S := (sh_lo, [.inl (0, sx_Y 5), .inl (0, sx_Y 4), .inl (0, sx_Y 3), .inr (1, 82)], l26_fi a b e0 e1 e2 e3, [], l26_N l3 u3 l4 u4 l5 u5, sh_fa, 10)
def l26_B (a b : Nat) (l3 u3 l4 u4 l5 u5 : Int) : sx_S := l26_P a b l3 u3 l4 u4 l5 u5 (sx_Y 6) (sx_Y 7) (sx_Y 8) (sx_Y 9)
def l26_an (a b p : Nat) : List sx_AA := [(p, l26_B a b (-2147483648) (-1) (-2147483648) 2147483647 (-2147483648) 2147483647, (0, [])), (p, l26_B a b 4 2147483647 (-2147483648) 2147483647 (-2147483648) 2147483647, (0, [])), (p, l26_B a b (-2147483648) 2147483647 (-2147483648) (-1) (-2147483648) 2147483647, (0, [])), (p, l26_B a b (-2147483648) 2147483647 3 2147483647 (-2147483648) 2147483647, (0, [])), (p, l26_B a b (-2147483648) 2147483647 (-2147483648) 2147483647 65 2147483647, (0, [])), (p, l26_B a b (-2147483648) 2147483647 (-2147483648) 2147483647 (-2147483648) (-1), (0, [])),
  (p, l26_P a b 0 0 0 2 0 64 (sx_Y 5) (sx_Y 7) (sx_Y 8) (sx_Y 9), (0, [])), (p, l26_P a b 1 1 0 2 0 64 (sx_Y 6) (sx_Y 5) (sx_Y 8) (sx_Y 9), (0, [])), (p, l26_P a b 2 2 0 2 0 64 (sx_Y 6) (sx_Y 7) (sx_Y 5) (sx_Y 9), (0, [])), (p, l26_P a b 3 3 0 2 0 64 (sx_Y 6) (sx_Y 7) (sx_Y 8) (sx_Y 5), (0, []))]
def l26_K (mo : List Nat) (dp : Nat) : sx_KK := (9996, ([], [], [], [], [], [], 10), mo, dp, [])
def l26_T (a b : Nat) : sx_S := (sh_lo, [.inl (0, sx_Y 3)], [(126, .inl (0, sx_Y 1)), (135, .inr (1, a)), (136, .inr (1, b))], [], [(1, 6, 3072), (2, 0, 3066), (3, (-2147483648), 2147483647)], sh_fa, 4)
def l26_b (β : Nat → Int) (k l n c0 c1 c2 c3 : Int) : Nat → Int := fun s => if s = 3 then k else if s = 4 then l else if s = 5 then n else if s = 6 then c0 else if s = 7 then c1 else if s = 8 then c2 else if s = 9 then c3 else β s
theorem l26_ag {β : Nat → Int} {k l n c0 c1 c2 c3 : Int} : sx_ag 3 β (l26_b β k l n c0 c1 c2 c3) := fun s hs => by
  unfold l26_b
  rw [if_neg (by omega), if_neg (by omega), if_neg (by omega), if_neg (by omega), if_neg (by omega), if_neg (by omega), if_neg (by omega)]
theorem ms_cal {k l n : Int32} {rest ws : List Value} (hw : (rest.map fun v => v.category).sum ≤ 8) (h82 : ab_rd h 82 = some (.inr (10, ws))) {i ix : Nat} : ab_cal ab_G (ab_c (.invokevirtual i) 0 225 3 ix) (.int n :: .int l :: .int k :: .ref 82 :: rest) h = some (ab_M_X10_sheet, [.ref 82, .int k, .int l, .int n], rest) := ab_cal_v (As := [.int k, .int l, .int n]) rfl (show ab_G 225 = some ab_M_X10_sheet from rfl) rfl h82 rfl rfl (by unfold ab_cok; rw [Bool.and_eq_true]; exact ⟨rfl, decide_eq_true hw⟩) rfl
/-- the reference's sheet by its contract -/
theorem ms_con (T : cs_T z L xs) (hh : sx_h sx_SP z L xs h) (hd : kc_479.2.2.2.1 ≤ d) (k l n : Int32) : ab_go d ab_M_X10_sheet 0 [(0, .ref 82), (1, .int k), (2, .int l), (3, .int n)] [] h (fun r h' => sx_h sx_SP z L xs h' ∧ sx_fr kc_479.2.2.1 h h' ∧ ∃ x : Int32, r = some (.int x)) := by
  have hK := T kc_479 (show kc_479 ∈ sx_of sx_KT2 kc_479.1 from List.mem_cons_self)
  refine (hK.2 ab_M_X10_sheet rfl d hd (fun s => if s = 1 then k.toInt else if s = 2 then l.toInt else n.toInt) [.ref 82, .int k, .int l, .int n] h ⟨fun q hq => (by cases hq), ⟨rfl, ?_, ?_, ?_, trivial⟩, fun q hq => (by cases hq), fun q hq => (by cases hq), sh_oN (fun s l' u' hs => ?_), fun q hq => (by cases hq), hh⟩).mono (fun r h' hp => ?_)
  · show k.toInt = sx_ev _ (sx_Y 1)
    rw [sx_ev_Y]
    rfl
  · show l.toInt = sx_ev _ (sx_Y 2)
    rw [sx_ev_Y]
    rfl
  · show n.toInt = sx_ev _ (sx_Y 3)
    rw [sx_ev_Y]
    rfl
  · rcases List.mem_cons.mp hs with q | hs
    · cases q; exact nw_pc (nw_32 k)
    rcases List.mem_cons.mp hs with q | hs
    · cases q; exact nw_pc (nw_32 l)
    rcases List.mem_cons.mp hs with q | hs
    · cases q; exact nw_pc (nw_32 n)
    cases hs
  · obtain ⟨q1, q2⟩ := nw_h hp
    refine ⟨q1, q2, ?_⟩
    obtain ⟨O, hO, β1, -, g1, -⟩ := hp
    have hO : O ∈ kc_479.2.2.2.2 := hO
    unfold kc_479 at hO
    dsimp only at hO
    rcases List.mem_cons.mp hO with rfl | hO
    · exact nw_int g1
    rcases List.mem_cons.mp hO with rfl | hO
    · exact nw_int g1
    rcases List.mem_cons.mp hO with rfl | hO
    · exact nw_int g1
    rcases List.mem_cons.mp hO with rfl | hO
    · exact nw_int g1
    rcases List.mem_cons.mp hO with rfl | hO
    · exact nw_int g1
    rcases List.mem_cons.mp hO with rfl | hO
    · exact nw_int g1
    rcases List.mem_cons.mp hO with rfl | hO
    · exact nw_int g1
    cases hO
theorem l26_fin (T : cs_T z L xs) {d : Nat} (hd : kc_479.2.2.2.1 ≤ d) {a b p : Nat} (hit : ∃ i ix, ab_at ab_M_L_law.2.2.2.2.2 p = some (ab_c (.invokevirtual i) 0 225 3 ix)) (htl : sx_run sx_SP sx_KT2 (cs_K [] 0) ab_M_L_law cs_hd none 3000 (p + 3) (l26_T a b) = true) {l3 u3 l4 u4 l5 u5 : Int} {e : Nat → sx_E} {β β2 : Nat → Int} {lv : ab_L} {st : List Value} {h1 : ab_H} (g : sx_at sx_SP z L xs (l26_P a b l3 u3 l4 u4 l5 u5 (e 0) (e 1) (e 2) (e 3)) β2 lv st h1) (hag : sx_ag 3 β β2) {k l n : Int32} (hk : β2 3 = k.toInt) (hl : β2 4 = l.toInt) (hn : β2 5 = n.toInt) {la le : Nat → Int32} (m1 : ab_rd h1 117 = some (.inl (0, 4, .inl la))) (m2 : ab_rd h1 118 = some (.inl (0, 4, .inl le)))
    (hok : sh_ok k l n → ∀ j, j < 4 → ∀ c : Int32, c.toInt = sx_ev β2 (e j) → sh_r c (upd la k.toNatClampNeg l j) (upd le k.toNatClampNeg n j)) (hno : ¬ sh_ok k l n → ∀ j, j < 4 → ∀ c : Int32, c.toInt = sx_ev β2 (e j) → sh_r c (la j) (le j)) (hm : cs_md a b)
    (IH : ∀ (a' b' : Nat) (β' : Nat → Int) (lv' : ab_L) (h' : ab_H), cs_md a' b' → sx_at sx_SP z L xs (cs_S a' b' (6, [(2, 1)])) β' lv' [] h' → sx_ag 3 β β' → sh_R h' → ab_go (d + 1) ab_M_L_law 18 lv' [] h' Q) : ab_go (d + 1) ab_M_L_law p lv st h1 Q := by
  obtain ⟨g1, g2, g3, -, g5, g6, hh⟩ := g
  -- the stack
  obtain ⟨n', st, rfl, kn, k1⟩ := sx_pi (β := β2) (nx := 10) (fun β' ha => (sx_st_ag (n := 10) ha rfl).mpr g2)
  obtain ⟨l', st, rfl, kl, k2⟩ := sx_pi k1
  obtain ⟨k', st, rfl, kk, k3⟩ := sx_pi k2
  obtain ⟨st, rfl, k4⟩ := sx_pr k3
  rw [ig_st0 (k4 β2 sx_ag.rf)]
  have kn : n'.toInt = β2 5 := (kn β2 sx_ag.rf).trans (sx_ev_Y β2 5)
  have kl : l'.toInt = β2 4 := (kl β2 sx_ag.rf).trans (sx_ev_Y β2 4)
  have kk : k'.toInt = β2 3 := (kk β2 sx_ag.rf).trans (sx_ev_Y β2 3)
  obtain rfl : n' = n := Int32.toInt_inj.mp (kn.trans hn)
  obtain rfl : l' = l := Int32.toInt_inj.mp (kl.trans hl)
  obtain rfl : k' = k := Int32.toInt_inj.mp (kk.trans hk)
  obtain ⟨d, rfl⟩ : ∃ e, d = e + 1 := ⟨d - 1, by have : 1 ≤ d := hd; omega⟩
  obtain ⟨ws, r1, hF⟩ := nw_ws hh
  obtain ⟨mc, r4, -⟩ := nw_a (a := 119) (t := 0) (m := 256) rfl (by decide) (by decide) hh
  obtain ⟨i, ix, hit⟩ := hit
  refine go_c hit rfl (ms_cal (rest := []) (show 0 ≤ 8 by decide) r1) rfl (pa_go (ms_con T hh hd k' l' n') (ms_run ⟨hF.r rfl, hF.r rfl, hF.r rfl⟩ ⟨r1, m1, m2, mc, r4⟩ k' l' n')) (fun r h2 hp => ?_)
  obtain ⟨⟨hh2, hf2, x, rfl⟩, hM⟩ := hp
  have hfd : ∀ j, j < 4 → ∃ c : Int32, sx_fd h2 ((74 + 2 * j) * 128 + 0) = some (.int c) ∧ c.toInt = sx_ev β2 (e j) := fun j hj => by
    have key : ∀ (K : Nat) (E : sx_E), (K, .inl (0, E)) ∈ l26_fi a b (e 0) (e 1) (e 2) (e 3) → kc_479.2.2.1.contains K = false → K % 128 ≠ 127 → ∃ c : Int32, sx_fd h2 K = some (.int c) ∧ c.toInt = sx_ev β2 E := fun K E hm hc h7 => by
      obtain ⟨w, w1, w2⟩ := g3 (K, .inl (0, E)) hm
      cases w with
      | int c => exact ⟨c, (sx_fr_fd hf2 hc h7).trans w1, w2⟩
      | _ => exact w2.elim
    rcases (show j = 0 ∨ j = 1 ∨ j = 2 ∨ j = 3 by omega) with rfl | rfl | rfl | rfl
    · exact key 9472 (e 0) (by unfold l26_fi; simp) (by decide) (by decide)
    · exact key 9728 (e 1) (by unfold l26_fi; simp) (by decide) (by decide)
    · exact key 9984 (e 2) (by unfold l26_fi; simp) (by decide) (by decide)
    · exact key 10240 (e 3) (by unfold l26_fi; simp) (by decide) (by decide)
  have R2 : sh_R h2 := by
    rcases hM with ⟨ok, q1, q2, q3, -⟩ | ⟨ok, q1, q2, q3, -⟩
    · refine ⟨_, _, q2, q3, fun j hj => ?_⟩
      obtain ⟨c, c1, c2⟩ := hfd j hj
      exact ⟨c, c1, hok ok j hj c c2⟩
    · refine ⟨_, _, q2, q3, fun j hj => ?_⟩
      obtain ⟨c, c1, c2⟩ := hfd j hj
      exact ⟨c, c1, hno ok j hj c c2⟩
  refine l27_seg T (dp := 0) (mo := []) (Nat.zero_le _) (A := l26_T a b) (by rcases hm with ⟨rfl, rfl⟩ | ⟨rfl, rfl⟩ <;> rfl) (by show 3 ≤ 4; decide) htl (R := sh_R) (fun _ _ _ hh' hfr R => sh_fr rfl hh' hfr R) (β := β) (β' := sx_bu β2 3 x.toInt) (sh_ag.tr hag (sh_ag3 (by decide))) ⟨fun q hq => ?_, ⟨?_, trivial⟩, fun q hq => ?_, fun q hq => (by cases hq), sh_oN (fun s l' u' hs => ?_), fun f hf => ?_, hh2⟩ R2 IH
  · obtain ⟨w, w1, w2⟩ := g1 q hq
    refine ⟨w, w1, ?_⟩
    rcases List.mem_cons.mp hq with rfl | hq
    · exact w2
    rcases List.mem_cons.mp hq with rfl | hq
    · exact w2
    rcases List.mem_cons.mp hq with rfl | hq
    · exact w2
    rcases List.mem_cons.mp hq with rfl | hq
    · cases w with
      | int y =>
        have w2 : y.toInt = sx_ev β2 (sx_Y 2) := w2
        show y.toInt = sx_ev _ (sx_Y 2)
        rw [sx_ev_Y] at w2 ⊢
        exact w2
      | _ => exact w2.elim
    cases hq
  · show x.toInt = sx_ev _ (sx_Y 3)
    rw [sx_ev_Y]
    rfl
  · have key : ∀ K, (K = 126 ∨ K = 135 ∨ K = 136) → sx_fd h2 K = sx_fd h1 K := fun K hK => by
      rcases hK with rfl | rfl | rfl
      · exact sx_fr_fd hf2 (by decide) (by decide)
      · exact sx_fr_fd hf2 (by decide) (by decide)
      · exact sx_fr_fd hf2 (by decide) (by decide)
    rcases List.mem_cons.mp hq with rfl | hq
    · obtain ⟨w, w1, w2⟩ := g3 (126, .inl (0, sx_Y 1)) (by unfold l26_fi; simp)
      refine ⟨w, (key 126 (Or.inl rfl)).trans w1, ?_⟩
      cases w with
      | int y =>
        have w2 : y.toInt = sx_ev β2 (sx_Y 1) := w2
        show y.toInt = sx_ev _ (sx_Y 1)
        rw [sx_ev_Y] at w2 ⊢
        exact w2
      | _ => exact w2.elim
    rcases List.mem_cons.mp hq with rfl | hq
    · obtain ⟨w, w1, w2⟩ := g3 (135, .inr (1, a)) (by unfold l26_fi; simp)
      exact ⟨w, (key 135 (Or.inr (Or.inl rfl))).trans w1, w2⟩
    rcases List.mem_cons.mp hq with rfl | hq
    · obtain ⟨w, w1, w2⟩ := g3 (136, .inr (1, b)) (by unfold l26_fi; simp)
      exact ⟨w, (key 136 (Or.inr (Or.inr rfl))).trans w1, w2⟩
    cases hq
  · rcases List.mem_cons.mp hs with q | hs
    · cases q; exact g5 (1, 6, 3072) List.mem_cons_self
    rcases List.mem_cons.mp hs with q | hs
    · cases q; exact g5 (2, 0, 3066) (List.mem_cons_of_mem _ List.mem_cons_self)
    rcases List.mem_cons.mp hs with q | hs
    · cases q; exact nw_pc (nw_32 x)
    cases hs
  · have f0 := g6 f hf
    have hf : f ∈ [((6 : Int), [((1 : Nat), (-1 : Int)), (2, 1)])] := hf
    rw [List.mem_singleton] at hf
    subst hf
    exact f0
theorem sh_upd {f : Nat → Int32} {k j : Nat} {x : Int32} : upd f k x j = if j = k then x else f j := rfl
theorem l26_step (hL : L ≤ 3072) (T : cs_T z L xs) {d a b p p2 dp : Nat} {mo : List Nat} (hm : cs_md a b) (hmo : mo.contains 15103 = false ∧ mo.contains 15231 = false) (hd : dp ≤ d + 1) (hd2 : kc_479.2.2.2.1 ≤ d) (hit : ∃ i ix, ab_at ab_M_L_law.2.2.2.2.2 p2 = some (ab_c (.invokevirtual i) 0 225 3 ix)) (htl : sx_run sx_SP sx_KT2 (cs_K [] 0) ab_M_L_law cs_hd none 3000 (p2 + 3) (l26_T a b) = true) (hrun : sx_run sx_SP sx_KT2 (l26_K mo dp) ab_M_L_law (l26_an a b p2) none 3000 p (l26_A a b) = true) : cs_step z L (d + 1) xs Q sh_R p a b := fun β lv h g R IH => by
  obtain ⟨r0, b1, b2, b3⟩ := sh_el hL g
  obtain ⟨i, hi⟩ : ∃ i : Nat, β 2 = i := ⟨(β 2).toNat, by omega⟩
  obtain ⟨la, le, m1, m2, hsh⟩ := R
  obtain ⟨c0, d0, s0⟩ := hsh 0 (by decide)
  obtain ⟨c1, d1, s1⟩ := hsh 1 (by decide)
  obtain ⟨c2, d2, s2⟩ := hsh 2 (by decide)
  obtain ⟨c3, d3, s3⟩ := hsh 3 (by decide)
  have bd : ∀ {c a b : Int32}, sh_r c a b → -1 ≤ c.toInt ∧ c.toInt ≤ 64 := fun {c a b} q => by
    rcases q with ⟨q, -⟩ | ⟨q, -, q2, q3⟩ <;> omega
  have hk := l26_ag (β := β) (k := (xs (i + 1)).toInt) (l := (xs (i + 2)).toInt) (n := (xs (i + 3)).toInt) (c0 := c0.toInt) (c1 := c1.toInt) (c2 := c2.toInt) (c3 := c3.toInt)
  generalize hB : l26_b β (xs (i + 1)).toInt (xs (i + 2)).toInt (xs (i + 3)).toInt c0.toInt c1.toInt c2.toInt c3.toInt = B at hk
  have v3 : B 3 = (xs (i + 1)).toInt := by rw [← hB]; rfl
  have v4 : B 4 = (xs (i + 2)).toInt := by rw [← hB]; rfl
  have v5 : B 5 = (xs (i + 3)).toInt := by rw [← hB]; rfl
  have v6 : B 6 = c0.toInt := by rw [← hB]; rfl
  have v7 : B 7 = c1.toInt := by rw [← hB]; rfl
  have v8 : B 8 = c2.toInt := by rw [← hB]; rfl
  have v9 : B 9 = c3.toInt := by rw [← hB]; rfl
  have v2 : B 2 = β 2 := hk 2 (by decide)
  have gA : sx_at sx_SP z L xs (l26_A a b) B lv [] h := by
    refine ⟨sh_lo_ok g hk, trivial, fun q hq => ?_, fun q hq => ?_, sh_oN (fun s l' u' hs => ?_), sh_fa_ok g hk, g.2.2.2.2.2.2⟩
    · rcases List.mem_cons.mp hq with rfl | hq
      · exact sh_fi_ok g hk _ List.mem_cons_self
      rcases List.mem_cons.mp hq with rfl | hq
      · exact sh_fi_ok g hk _ (List.mem_cons_of_mem _ List.mem_cons_self)
      rcases List.mem_cons.mp hq with rfl | hq
      · exact sh_fi_ok g hk _ (List.mem_cons_of_mem _ (List.mem_cons_of_mem _ List.mem_cons_self))
      rcases List.mem_cons.mp hq with rfl | hq
      · exact ⟨_, d0, by show c0.toInt = sx_ev _ (sx_Y 6); rw [sx_ev_Y]; exact v6.symm⟩
      rcases List.mem_cons.mp hq with rfl | hq
      · exact ⟨_, d1, by show c1.toInt = sx_ev _ (sx_Y 7); rw [sx_ev_Y]; exact v7.symm⟩
      rcases List.mem_cons.mp hq with rfl | hq
      · exact ⟨_, d2, by show c2.toInt = sx_ev _ (sx_Y 8); rw [sx_ev_Y]; exact v8.symm⟩
      rcases List.mem_cons.mp hq with rfl | hq
      · exact ⟨_, d3, by show c3.toInt = sx_ev _ (sx_Y 9); rw [sx_ev_Y]; exact v9.symm⟩
      cases hq
    · rcases List.mem_cons.mp hq with rfl | hq
      · exact sh_e1 (i := i + 1) r0 (by omega) (by show 1 + (1 * B 2 + 0) = ((i + 1 : Nat) : Int); omega) (by show (xs (i + 1)).toInt = sx_ev _ (sx_Y 3); rw [sx_ev_Y]; exact v3.symm)
      rcases List.mem_cons.mp hq with rfl | hq
      · exact sh_e1 (i := i + 2) r0 (by omega) (by show 2 + (1 * B 2 + 0) = ((i + 2 : Nat) : Int); omega) (by show (xs (i + 2)).toInt = sx_ev _ (sx_Y 4); rw [sx_ev_Y]; exact v4.symm)
      rcases List.mem_cons.mp hq with rfl | hq
      · exact sh_e1 (i := i + 3) r0 (by omega) (by show 3 + (1 * B 2 + 0) = ((i + 3 : Nat) : Int); omega) (by show (xs (i + 3)).toInt = sx_ev _ (sx_Y 5); rw [sx_ev_Y]; exact v5.symm)
      cases hq
    · rcases List.mem_cons.mp hs with q | hs
      · cases q; exact (sh_bd g hk).1
      rcases List.mem_cons.mp hs with q | hs
      · cases q; exact (sh_bd g hk).2
      rcases List.mem_cons.mp hs with q | hs
      · cases q; rw [v3]; exact nw_pc (nw_32 _)
      rcases List.mem_cons.mp hs with q | hs
      · cases q; rw [v4]; exact nw_pc (nw_32 _)
      rcases List.mem_cons.mp hs with q | hs
      · cases q; rw [v5]; exact nw_pc (nw_32 _)
      rcases List.mem_cons.mp hs with q | hs
      · cases q; rw [v6]; exact bd s0
      rcases List.mem_cons.mp hs with q | hs
      · cases q; rw [v7]; exact bd s1
      rcases List.mem_cons.mp hs with q | hs
      · cases q; rw [v8]; exact bd s2
      rcases List.mem_cons.mp hs with q | hs
      · cases q; rw [v9]; exact bd s3
      cases hs
  refine sx_seg (K := l26_K mo dp) (β0 := B) (h0 := h) (fun K' hm _ => T K' hm) hd (fun O hO => by cases hO) (fun r h' hp => by obtain ⟨O, hO, -⟩ := hp; cases hO) (fun q hq β2 lv' st h1 g' hag2 hfr => ?_) 3000 p (l26_A a b) B lv [] h hrun (sx_wS_ok (by rcases hm with ⟨rfl, rfl⟩ | ⟨rfl, rfl⟩ <;> rfl) gA) sx_ag.rf (Nat.le_refl _) sx_fr.rf
  have hag : sx_ag 3 β β2 := sh_ag.tr hk (fun s hs => hag2 s (Nat.lt_of_lt_of_le hs (by decide)))
  have w3 : β2 3 = (xs (i + 1)).toInt := (hag2 3 (by decide)).trans v3
  have w4 : β2 4 = (xs (i + 2)).toInt := (hag2 4 (by decide)).trans v4
  have w5 : β2 5 = (xs (i + 3)).toInt := (hag2 5 (by decide)).trans v5
  have w6 : β2 6 = c0.toInt := (hag2 6 (by decide)).trans v6
  have w7 : β2 7 = c1.toInt := (hag2 7 (by decide)).trans v7
  have w8 : β2 8 = c2.toInt := (hag2 8 (by decide)).trans v8
  have w9 : β2 9 = c3.toInt := (hag2 9 (by decide)).trans v9
  have hh1 : sx_h sx_SP z L xs h1 := g'.2.2.2.2.2.2
  obtain ⟨la', m1', -⟩ := nw_a (a := 117) (t := 0) (m := 4) rfl (by decide) (by decide) hh1
  obtain ⟨le', m2', -⟩ := nw_a (a := 118) (t := 0) (m := 4) rfl (by decide) (by decide) hh1
  have e1 := sh_arr hfr hmo.1 m1 m1'
  have e2 := sh_arr hfr hmo.2 m2 m2'
  subst e1 e2
  -- sizes as they were
  have old : ∀ j, j < 4 → ∀ c : Int32, c.toInt = β2 (6 + j) → sh_r c (la' j) (le' j) := fun j hj c hc => by
    rcases (show j = 0 ∨ j = 1 ∨ j = 2 ∨ j = 3 by omega) with rfl | rfl | rfl | rfl
    · rw [show c = c0 from Int32.toInt_inj.mp (hc.trans w6)]; exact s0
    · rw [show c = c1 from Int32.toInt_inj.mp (hc.trans w7)]; exact s1
    · rw [show c = c2 from Int32.toInt_inj.mp (hc.trans w8)]; exact s2
    · rw [show c = c3 from Int32.toInt_inj.mp (hc.trans w9)]; exact s3
  have bad : ∀ {l3 u3 l4 u4 l5 u5 : Int}, sx_at sx_SP z L xs (l26_B a b l3 u3 l4 u4 l5 u5) β2 lv' st h1 → ¬ sh_ok (xs (i + 1)) (xs (i + 2)) (xs (i + 3)) → ab_go (d + 1) ab_M_L_law p2 lv' st h1 Q := fun {l3 u3 l4 u4 l5 u5} g' hn => by
    refine l26_fin T hd2 hit htl (e := fun j => sx_Y (6 + j)) g' hag w3 w4 w5 m1' m2' (fun ok => absurd ok hn) (fun _ j hj c hc => old j hj c ?_) hm IH
    rw [hc]
    exact sx_ev_Y _ _
  have good : ∀ {J : Nat} {e : Nat → sx_E}, J < 4 → (xs (i + 1)).toInt = J → (∀ j, j < 4 → e j = if j = J then sx_Y 5 else sx_Y (6 + j)) → (0 ≤ (xs (i + 2)).toInt ∧ (xs (i + 2)).toInt ≤ 2) → (0 ≤ (xs (i + 3)).toInt ∧ (xs (i + 3)).toInt ≤ 64) → ∀ {l3 u3 l4 u4 l5 u5 : Int}, sx_at sx_SP z L xs (l26_P a b l3 u3 l4 u4 l5 u5 (e 0) (e 1) (e 2) (e 3)) β2 lv' st h1 → ab_go (d + 1) ab_M_L_law p2 lv' st h1 Q := fun {J e} hJ hJe he hl hn {l3 u3 l4 u4 l5 u5} g' => by
    refine l26_fin T hd2 hit htl (e := e) g' hag w3 w4 w5 m1' m2' (fun _ j hj c hc => ?_) (fun hno => absurd ⟨⟨by omega, by omega⟩, hl, hn⟩ hno) hm IH
    have hcl : (xs (i + 1)).toNatClampNeg = J := by
      show (xs (i + 1)).toInt.toNat = J
      omega
    rw [hcl, sh_upd, sh_upd]
    rw [he j hj] at hc
    by_cases q : j = J
    · rw [if_pos q] at hc
      rw [if_pos q, if_pos q]
      rw [sx_ev_Y, w5] at hc
      exact Or.inr ⟨hc, hl, hn⟩
    · rw [if_neg q] at hc
      rw [if_neg q, if_neg q]
      rw [sx_ev_Y] at hc
      exact old j hj c hc
  have nb : ∀ {l3 u3 l4 u4 l5 u5 : Int} {e0 e1 e2 e3 : sx_E}, sx_at sx_SP z L xs (l26_P a b l3 u3 l4 u4 l5 u5 e0 e1 e2 e3) β2 lv' st h1 → (l3 ≤ (xs (i + 1)).toInt ∧ (xs (i + 1)).toInt ≤ u3) ∧ (l4 ≤ (xs (i + 2)).toInt ∧ (xs (i + 2)).toInt ≤ u4) ∧ l5 ≤ (xs (i + 3)).toInt ∧ (xs (i + 3)).toInt ≤ u5 := fun {l3 u3 l4 u4 l5 u5 e0 e1 e2 e3} g' => by
    have n3 : l3 ≤ β2 3 ∧ β2 3 ≤ u3 := g'.2.2.2.2.1 (3, l3, u3) (List.mem_cons_of_mem _ (List.mem_cons_of_mem _ List.mem_cons_self))
    have n4 : l4 ≤ β2 4 ∧ β2 4 ≤ u4 := g'.2.2.2.2.1 (4, l4, u4) (List.mem_cons_of_mem _ (List.mem_cons_of_mem _ (List.mem_cons_of_mem _ List.mem_cons_self)))
    have n5 : l5 ≤ β2 5 ∧ β2 5 ≤ u5 := g'.2.2.2.2.1 (5, l5, u5) (List.mem_cons_of_mem _ (List.mem_cons_of_mem _ (List.mem_cons_of_mem _ (List.mem_cons_of_mem _ List.mem_cons_self))))
    rw [w3] at n3
    rw [w4] at n4
    rw [w5] at n5
    exact ⟨n3, n4, n5⟩
  rcases List.mem_cons.mp hq with rfl | hq
  · exact bad g' (fun ok => by have := (nb g').1; have := ok.1; omega)
  rcases List.mem_cons.mp hq with rfl | hq
  · exact bad g' (fun ok => by have := (nb g').1; have := ok.1; omega)
  rcases List.mem_cons.mp hq with rfl | hq
  · exact bad g' (fun ok => by have := (nb g').2.1; have := ok.2.1; omega)
  rcases List.mem_cons.mp hq with rfl | hq
  · exact bad g' (fun ok => by have := (nb g').2.1; have := ok.2.1; omega)
  rcases List.mem_cons.mp hq with rfl | hq
  · exact bad g' (fun ok => by have := (nb g').2.2; have := ok.2.2; omega)
  rcases List.mem_cons.mp hq with rfl | hq
  · exact bad g' (fun ok => by have := (nb g').2.2; have := ok.2.2; omega)
  rcases List.mem_cons.mp hq with rfl | hq
  · exact good (J := 0) (e := fun j => if j = 0 then sx_Y 5 else sx_Y (6 + j)) (by decide) (by have := (nb g').1; omega) (fun _ _ => rfl) (nb g').2.1 (nb g').2.2 g'
  rcases List.mem_cons.mp hq with rfl | hq
  · exact good (J := 1) (e := fun j => if j = 1 then sx_Y 5 else sx_Y (6 + j)) (by decide) (by have := (nb g').1; omega) (fun _ _ => rfl) (nb g').2.1 (nb g').2.2 g'
  rcases List.mem_cons.mp hq with rfl | hq
  · exact good (J := 2) (e := fun j => if j = 2 then sx_Y 5 else sx_Y (6 + j)) (by decide) (by have := (nb g').1; omega) (fun _ _ => rfl) (nb g').2.1 (nb g').2.2 g'
  rcases List.mem_cons.mp hq with rfl | hq
  · exact good (J := 3) (e := fun j => if j = 3 then sx_Y 5 else sx_Y (6 + j)) (by decide) (by have := (nb g').1; omega) (fun _ _ => rfl) (nb g').2.1 (nb g').2.2 g'
  cases hq
end SH2
