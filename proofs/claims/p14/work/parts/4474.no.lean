/-! ===== cost ===== -/
section NO
variable {z L : Nat} {xs : Nat → Int32} {h h' h0 : ab_H} {β : Nat → Int} {wi nx lvs ow : Nat → Int32} {EV ST W : Nat}
theorem no_ret {x : Int32} (hh : sx_h sx_SP z L xs h') (hf : sx_fr kc_338.2.2.1 h0 h') : sx_post sx_SP z L xs kc_338 β h0 (some (.int x)) h' := by
  refine ⟨_, show _ ∈ kc_338.2.2.2.2 from List.mem_cons_self, sx_bu β 1 x.toInt, sx_bu_ag, ⟨fun q hq => (by cases hq), ⟨?_, trivial⟩, fun q hq => (by cases hq), fun q hq => (by cases hq), fun q hq => ?_, fun q hq => (by cases hq), hh⟩, hf⟩
  · show x.toInt = sx_ev (sx_bu β 1 x.toInt) (sx_Y 1)
    rw [sx_ev_Y]
    exact (if_pos rfl).symm
  · have hq : q ∈ [((1 : Nat), ((-2147483648) : Int), (2147483647 : Int))] := hq
    rw [List.mem_singleton] at hq
    subst hq
    show (-2147483648 : Int) ≤ sx_bu β 1 x.toInt 1 ∧ sx_bu β 1 x.toInt 1 ≤ 2147483647
    rw [show sx_bu β 1 x.toInt 1 = x.toInt from if_pos rfl]
    exact nw_pc (nw_32 x)
theorem no_cal_lq {rest ws : List Value} (hw : (rest.map fun v => v.category).sum ≤ 8) (h82 : ab_rd h 82 = some (.inr (10, ws))) {i ix : Nat} : ab_cal ab_G (ab_c (.invokevirtual i) 0 183 0 ix) (.ref 82 :: rest) h = some (ab_M_X10_layQuarrels, [.ref 82], rest) := ab_cal_v (As := []) rfl (show ab_G 183 = some ab_M_X10_layQuarrels from rfl) rfl h82 rfl rfl (by unfold ab_cok; rw [Bool.and_eq_true]; exact ⟨rfl, decide_eq_true hw⟩) rfl
def no_ok (wi nx lvs ow : Nat → Int32) (EV ST W : Nat) : Prop := ∀ s1 s2, s1 < s2 → s2 < ST → qu_ok wi nx lvs ow EV W s1 s2
theorem nu_run (T : nr_T z L xs) (hh : sx_h sx_SP z L xs h) (g : ns h wi nx lvs ow EV ST W) (b : nb lvs EV ST W) (d : Nat) : ab_go (d + 2) ab_M_X10_layQuarrels 0 [(0, .ref 82)] [] h (fun r h' => r = none ∧ sx_h sx_SP z L xs h' ∧ sx_fr kc_230.2.2.1 h h' ∧ ns h' wi nx lvs ow EV ST W ∧ ∃ (ws : List Value) (c : Nat), ab_rd h' 82 = some (.inr (10, ws)) ∧ ws[40]? = some (.int (Int32.ofNat c)) ∧ c ≤ 40000 ∧ (c = 0 → no_ok wi nx lvs ow EV ST W)) := by
  obtain ⟨ws0, m, r84, hq, eW, e2⟩ := g
  have hF0 := nw_of hh m.1
  refine (go_and (nw_use (nr_230 T) rfl rfl (show 2 ≤ d + 2 by omega) hh) (qu_run hq (by rw [← hF0.1]; decide) b.1 b.2.1 eW e2 b.2.2.1 m r84 d)).mono (fun r h' hp => ?_)
  obtain ⟨p1, rfl, c, hc, ⟨ws, x39, x41, x42, m', r84', hW, hF, hX⟩, hok⟩ := hp
  obtain ⟨q1, q2⟩ := nw_h p1
  exact ⟨rfl, q1, q2, ⟨ws, m', r84', hW.q hq, (hW.2 0 (by decide)).trans eW, (hW.2 2 (by decide)).trans e2⟩, ws, c, m'.1, hX.2.1, hc, hok⟩
theorem no_on {w : Nat} {A B : Int64} (b : nb lvs EV ST W) (ok : no_ok wi nx lvs ow EV ST W) (hw : w < W) (ho : 0 < (ow w).toInt) (hI : am_I wi nx lvs EV ST (Int32.ofNat w) A B) : ∀ l, l < 64 → mk_bt A l = true → l < 2 ^ W ∧ mk_bt B l = false := by
  intro l hl hA
  refine ⟨nq_lt b hI hl hA, ?_⟩
  cases hB : mk_bt B l with
  | false => rfl
  | true =>
    obtain ⟨s1, a1, a2, a3⟩ := hI.1 l hl hA
    obtain ⟨s2, b1, b2, b3⟩ := hI.2 l hl hB
    have he : lvs s1 = lvs s2 := a2.trans b2.symm
    rcases Nat.lt_trichotomy s1 s2 with q | q | q
    · exact absurd ((ow_same b.2.2.1 hw ho (ok s1 s2 q b1 he)).mp a3) b3
    · rw [q] at a3
      exact absurd a3 b3
    · exact absurd ((ow_same b.2.2.1 hw ho (ok s2 s1 q a1 he.symm)).mpr a3) b3
theorem no_28 (T : nr_T z L xs) (b : nb lvs EV ST W) (ok : no_ok wi nx lvs ow EV ST W) (d : Nat) : ∀ (r w : Nat) (h : ab_H) (lv : ab_L) (s : Int32), w + r = W → sx_h sx_SP z L xs h → sx_fr kc_338.2.2.1 h0 h → ns h wi nx lvs ow EV ST W → ab_lk lv 0 = some (.ref 82) → ab_lk lv 1 = some (.int s) → ab_lk lv 2 = some (.int (Int32.ofNat w)) → ab_go (d + 4) ab_M_X10_cost 28 lv [] h (sx_post sx_SP z L xs kc_338 β h0) := by
  intro r
  have hW6 := b.2.2.1
  induction r with
  | zero =>
    intro w h lv s hr hh hf g f0 f1 f2
    obtain ⟨ws, m, r84, hq, eW, e2⟩ := g
    obtain rfl : w = W := hr
    refine go_s (pc' := 29) (lv' := lv) (st' := [.int (Int32.ofNat w)]) (h' := h) rfl rfl (po_ild (nL := 0) f2) ?_
    refine go_s (pc' := 30) (lv' := lv) (st' := [.ref 82, .int (Int32.ofNat w)]) (h' := h) rfl rfl (ig_ald f0) ?_
    refine go_get (ci := 10) (k := 0) rfl m.1 eW ?_
    refine go_ic (c := .ge) (off := 34) (tgt := 67) rfl rfl (fun _ => ?_) (fun q => absurd (Int.le_refl _) q)
    refine go_s (pc' := 68) (lv' := lv) (st' := [.int s]) (h' := h) rfl rfl (po_ild (nL := 0) f1) ?_
    exact go_ri rfl rfl (no_ret hh hf)
  | succ r ih =>
    intro w h lv s hr hh hf g f0 f1 f2
    have g0 := g
    obtain ⟨ws, m, r84, hq, eW, e2⟩ := g
    refine go_s (pc' := 29) (lv' := lv) (st' := [.int (Int32.ofNat w)]) (h' := h) rfl rfl (po_ild (nL := 0) f2) ?_
    refine go_s (pc' := 30) (lv' := lv) (st' := [.ref 82, .int (Int32.ofNat w)]) (h' := h) rfl rfl (ig_ald f0) ?_
    refine go_get (ci := 10) (k := 0) rfl m.1 eW ?_
    refine go_ic (c := .ge) (off := 34) (tgt := 67) rfl rfl (fun q => absurd (show (Int32.ofNat W).toInt ≤ (Int32.ofNat w).toInt from q) (by rw [mk_i (by omega), mk_i (by omega)]; omega)) (fun _ => ?_)
    have j61 : ∀ (h : ab_H) (lv : ab_L) (s : Int32), sx_h sx_SP z L xs h → sx_fr kc_338.2.2.1 h0 h → ns h wi nx lvs ow EV ST W → ab_lk lv 0 = some (.ref 82) → ab_lk lv 1 = some (.int s) → ab_lk lv 2 = some (.int (Int32.ofNat w)) → ab_go (d + 4) ab_M_X10_cost 61 lv [] h (sx_post sx_SP z L xs kc_338 β h0) := by
      intro h lv s hh hf g f0 f1 f2
      refine go_s (pc' := 64) (lv' := (ab_s1 2 (.int (Int32.ofNat (w + 1))) lv)) (st' := []) (h' := h) rfl rfl (mk_inc1 (by decide) (by omega) f2) ?_
      have f2 : ab_lk (ab_s1 2 (.int (Int32.ofNat (w + 1))) lv) 2 = some (.int (Int32.ofNat (w + 1))) := mk_s1s
      have f0 := po_s1_other (v := .int (Int32.ofNat (w + 1))) (i := 2) f0 (by decide) (fun q => absurd q.1 (by decide))
      have f1 := po_s1_other (v := .int (Int32.ofNat (w + 1))) (i := 2) f1 (by decide) (fun q => absurd q.2 (show ¬ (1 : Nat) = 2 by decide))
      generalize ab_s1 2 (.int (Int32.ofNat (w + 1))) lv = lv2 at f0 f1 f2 ⊢
      refine go_goto (off := -36) (tgt := 28) rfl rfl ?_
      exact ih (w + 1) h lv2 s (by omega) hh hf g f0 f1 f2
    refine go_s (pc' := 37) (lv' := lv) (st' := [.ref 82]) (h' := h) rfl rfl (ig_ald f0) ?_
    refine go_get (ci := 10) (k := 2) rfl m.1 e2 ?_
    refine go_s (pc' := 41) (lv' := lv) (st' := [.int (Int32.ofNat w), .ref 84]) (h' := h) rfl rfl (po_ild (nL := 0) f2) ?_
    refine go_ial (v := ow w) rfl r84 (mk_ix (by omega) (by omega)) (by rw [mk_cl (by omega)]) ?_
    refine go_if (c := .le) (off := 19) (tgt := 61) rfl rfl (fun _ => j61 h lv s hh hf g0 f0 f1 f2) (fun q => ?_)
    have ho : ¬ (ow w).toInt ≤ 0 := q
    refine go_s (pc' := 46) (lv' := lv) (st' := [.ref 82]) (h' := h) rfl rfl (ig_ald f0) ?_
    refine go_s (pc' := 47) (lv' := lv) (st' := [.int (Int32.ofNat w), .ref 82]) (h' := h) rfl rfl (po_ild (nL := 0) f2) ?_
    refine go_c rfl rfl (nq_cal_la (rest := []) (show 0 ≤ 8 by decide) m.1) rfl (na_run T hh g0 b (by rw [mk_i (by omega)]; omega) (d + 1)) (fun r h2 hp => ?_)
    obtain ⟨rfl, hh2, hf2, g2, ws2, A, B, r2, h47, h48, hI⟩ := hp
    have hf2 := hf.tr (hf2.sub (Mo := kc_338.2.2.1) (by decide))
    show ab_go (d + 4) ab_M_X10_cost 50 lv [] h2 _
    refine go_s (pc' := 51) (lv' := lv) (st' := [.ref 82]) (h' := h2) rfl rfl (ig_ald f0) ?_
    refine go_c rfl rfl (nq_cal_lm (by rfl) (rest := []) (show 0 ≤ 8 by decide) r2) rfl (nm_run hh2 g2 b r2 h47 h48 (no_on b ok (by omega) (by omega) hI) (d + 1)) (fun r h3 hp => ?_)
    obtain ⟨rfl, hh3, hf3, g3, P⟩ := hp
    have hf3 := hf2.tr (hf3.sub (Mo := kc_338.2.2.1) (by decide))
    obtain ⟨ws3, cu, co, cl, n, J, l, mS, hmw, hcl, h103, hW, hF, h57, h58, bJ, bl, hcan, hmin⟩ := P
    have r3 : ab_rd h3 82 = some (.inr (10, ws3)) := by
      obtain ⟨_, _, _, _, mm1, -⟩ := mS
      exact mm1.1
    show ab_go (d + 4) ab_M_X10_cost 54 lv [] h3 _
    refine go_s (pc' := 55) (lv' := lv) (st' := [.int s]) (h' := h3) rfl rfl (po_ild (nL := 0) f1) ?_
    refine go_s (pc' := 56) (lv' := lv) (st' := [.ref 82, .int s]) (h' := h3) rfl rfl (ig_ald f0) ?_
    refine go_get (ci := 10) (k := 58) rfl r3 h58 ?_
    refine go_s (pc' := 60) (lv' := lv) (st' := [.int (s + Int32.ofNat l)]) (h' := h3) rfl rfl rfl ?_
    refine go_s (pc' := 61) (lv' := (ab_s1 1 (.int (s + Int32.ofNat l)) lv)) (st' := []) (h' := h3) rfl rfl rfl ?_
    have f1 : ab_lk (ab_s1 1 (.int (s + Int32.ofNat l)) lv) 1 = some (.int (s + Int32.ofNat l)) := mk_s1s
    have f0 := po_s1_other (v := .int (s + Int32.ofNat l)) (i := 1) f0 (by decide) (fun q => absurd q.2 (show ¬ (1 : Nat) = 2 by decide))
    have f2 := po_s1_other (v := .int (s + Int32.ofNat l)) (i := 1) f2 (by decide) (fun q => absurd q.1 (by decide))
    generalize ab_s1 1 (.int (s + Int32.ofNat l)) lv = lv1 at f0 f1 f2 ⊢
    exact j61 h3 lv1 _ hh3 hf3 g3 f0 f1 f2
theorem co_holds0 (T : nr_T z L xs) : sx_holds sx_SP z L xs kc_338 := by
  refine ⟨⟨by decide +kernel, rfl⟩, fun M hM d hd β As h g => ?_⟩
  have e : M = ab_M_X10_cost := Option.some.inj (hM.symm.trans rfl)
  subst e
  have hd : 12 ≤ d := hd
  obtain ⟨-, g2, -, -, -, -, hh⟩ := g
  obtain ⟨q, rfl, k1⟩ := sx_pr (β := β) (nx := 1) (st := As) (a := 82) (fun β' hag => (sx_st_ag (n := 1) hag rfl).mpr g2)
  rw [ig_st0 (k1 β sx_ag.rf)]
  obtain ⟨d, rfl⟩ : ∃ e, d = e + 4 := ⟨d - 4, by omega⟩
  show ab_go (d + 4) ab_M_X10_cost 0 [(0, .ref 82)] [] h _
  have f0 : ab_lk [(0, Value.ref 82)] 0 = some (.ref 82) := rfl
  generalize [(0, Value.ref 82)] = lv at f0 ⊢
  obtain ⟨ws0, r0, -⟩ := nw_ws hh
  refine go_s (pc' := 1) (lv' := lv) (st' := [.ref 82]) (h' := h) rfl rfl (ig_ald f0) ?_
  refine go_c rfl rfl (nq_cal_lr (rest := []) (show 0 ≤ 8 by decide) r0) rfl (nr_run T hh (d + 1)) (fun r h1 hp => ?_)
  obtain ⟨p1, hL⟩ := hp
  obtain ⟨hh1, hf1⟩ := nw_h p1
  have hf1 := hf1.sub (Mo := kc_338.2.2.1) (by decide)
  obtain ⟨x, rfl, -⟩ := nr_01 p1
  refine go_if (c := .ne) (off := 6) (tgt := 10) rfl rfl (fun _ => ?_) (fun _ => ?_)
  rotate_left
  · refine go_s (pc' := 9) (lv' := lv) (st' := [.int (-2)]) (h' := h1) rfl rfl rfl ?_
    exact go_ri rfl rfl (no_ret hh1 hf1)
  obtain ⟨wi, nx, lvs, ow, EV, ST, W, g1, b⟩ := ns_of hh1 hL
  obtain ⟨ws1, r1, -⟩ := nw_ws hh1
  refine go_s (pc' := 11) (lv' := lv) (st' := [.ref 82]) (h' := h1) rfl rfl (ig_ald f0) ?_
  refine go_c rfl rfl (no_cal_lq (rest := []) (show 0 ≤ 8 by decide) r1) rfl (nu_run T hh1 g1 b (d + 1)) (fun r h2 hp => ?_)
  obtain ⟨rfl, hh2, hf2, g2, ws2, c, r2, h40, hc, hok⟩ := hp
  have hf2 := hf1.tr (hf2.sub (Mo := kc_338.2.2.1) (by decide))
  show ab_go (d + 4) ab_M_X10_cost 14 lv [] h2 _
  refine go_s (pc' := 15) (lv' := lv) (st' := [.ref 82]) (h' := h2) rfl rfl (ig_ald f0) ?_
  refine go_get (ci := 10) (k := 40) rfl r2 h40 ?_
  refine go_if (c := .le) (off := 6) (tgt := 24) rfl rfl (fun q => ?_) (fun _ => ?_)
  rotate_left
  · refine go_s (pc' := 23) (lv' := lv) (st' := [.int (-2)]) (h' := h2) rfl rfl rfl ?_
    exact go_ri rfl rfl (no_ret hh2 hf2)
  have q : (Int32.ofNat c).toInt ≤ 0 := q
  rw [mk_i (by omega)] at q
  have ok := hok (by omega)
  refine go_s (pc' := 25) (lv' := lv) (st' := [.int 0]) (h' := h2) rfl rfl rfl ?_
  refine go_s (pc' := 26) (lv' := (ab_s1 1 (.int 0) lv)) (st' := []) (h' := h2) rfl rfl rfl ?_
  have f1 : ab_lk (ab_s1 1 (.int 0) lv) 1 = some (.int 0) := mk_s1s
  have f0 := po_s1_other (v := .int 0) (i := 1) f0 (by decide) (fun q => absurd q.2 (show ¬ (1 : Nat) = 2 by decide))
  generalize ab_s1 1 (.int 0) lv = lv1 at f0 f1 ⊢
  refine go_s (pc' := 27) (lv' := lv1) (st' := [.int 0]) (h' := h2) rfl rfl rfl ?_
  refine go_s (pc' := 28) (lv' := (ab_s1 2 (.int 0) lv1)) (st' := []) (h' := h2) rfl rfl rfl ?_
  have f2 : ab_lk (ab_s1 2 (.int 0) lv1) 2 = some (.int 0) := mk_s1s
  have f0 := po_s1_other (v := .int 0) (i := 2) f0 (by decide) (fun q => absurd q.1 (by decide))
  have f1 := po_s1_other (v := .int 0) (i := 2) f1 (by decide) (fun q => absurd q.2 (show ¬ (1 : Nat) = 2 by decide))
  generalize ab_s1 2 (.int 0) lv1 = lv2 at f0 f1 f2 ⊢
  exact no_28 T b ok d W 0 h2 lv2 0 (by omega) hh2 hf2 g2 f0 f1 f2
end NO
