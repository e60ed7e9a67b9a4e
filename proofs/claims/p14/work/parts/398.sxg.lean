/-! ===== the wider checker is sound: the run, the contracts ===== -/
def sx_post (SP : List sx_C) (z L : Nat) (xs : Nat → Int32) (K : sx_KK) (β : Nat → Int) (h : ab_H) (r : Option Value) (h' : ab_H) : Prop := ∃ O ∈ K.2.2.2.2, ∃ β1, sx_ag (sx_nx K.2.1) β β1 ∧ sx_at SP z L xs O β1 [] r.toList h' ∧ sx_fr K.2.2.1 h h'
/-- what a contract says -/
def sx_holds (SP : List sx_C) (z L : Nat) (xs : Nat → Int32) (K : sx_KK) : Prop := (K.2.2.2.2.all (fun O => sx_wS O && (decide (O.1 = []) && decide (sx_nx K.2.1 ≤ sx_nx O))) = true ∧ K.2.1.1 = []) ∧ ∀ M, ab_G K.1 = some M → ∀ d, K.2.2.2.1 ≤ d → ∀ (β : Nat → Int) (As : List Value) (h : ab_H), sx_at SP z L xs K.2.1 β [] As h → ab_go d M 0 (lv_args 0 As) [] h (sx_post SP z L xs K β h)
section SXG
variable {SP : List sx_C} {z L : Nat} {xs : Nat → Int32} {Mo : List Nat} {β β' : Nat → Int} {A B : sx_S} {lv lv' : ab_L} {st st' : List Value} {h h' : ab_H} {l : List (Nat × sx_S)} {pc p n i nL nx d : Nat} {M : ab_M} {Q : Option Value → ab_H → Prop}
theorem sx_fr.tr {h1 h2 h3 : ab_H} (a : sx_fr Mo h1 h2) (b : sx_fr Mo h2 h3) : sx_fr Mo h1 h3 := fun k hk => (a k hk).trans (b k hk)
theorem sx_fr.sub {Mo' : List Nat} (a : sx_fr Mo' h h') (hs : Mo'.all (fun k => Mo.contains k) = true) : sx_fr Mo h h' := fun k hk => a k (by
  cases hc : Mo'.contains k with
  | false => rfl
  | true =>
    have h1 := List.all_eq_true.mp hs k (List.contains_iff_mem.mp hc)
    rw [hk] at h1
    cases h1)
theorem sx_go4 {it : ab_I} {pc' : Nat} (h1 : ab_at M.2.2.2.2.2 pc = some it) (h2 : ab_kd it = 4) (h3 : ab_sp M.2.2.1 it pc lv st h = some (pc', lv', st', h')) (k : ab_go (d + 1) M pc' lv' st' h' Q) : ab_go (d + 1) M pc lv st h Q := by
  obtain ⟨n, r, hF, hx, hq⟩ := k
  refine ⟨n + 1, r, hF, ?_, hq⟩
  unfold ab_ex
  simp only [h1, h2, h3]
  exact hx
theorem sx_ret_go {it : ab_I} {r : Option Value} (h1 : ab_at M.2.2.2.2.2 pc = some it) (h2 : ab_kd it = 1) (h3 : ab_rt M it st h = some (r, h)) (k : Q r h) : ab_go d M pc lv st h Q := by
  refine ⟨1, r, h, ?_, k⟩
  unfold ab_ex
  simp only [h1, h2, h3]
theorem sx_rfit_ok {ty : FieldType} {e : sx_E} {x : Int32} (g : sx_at SP z L xs A β lv st h) (hx : x.toInt = sx_ev β e) (hf : sx_rfit A ty e = true) : narrow ty (.int x) = .int x := by
  unfold sx_rfit at hf
  split at hf
  · rfl
  · have hb := sx_in_ok g.nf hf
    rw [← hx] at hb
    rcases sx_fitb hb.1 hb.2 with e | e <;> subst e <;> decide
  · have hb := sx_in_ok g.nf hf
    rw [← hx] at hb
    show Value.int x.toInt8.toInt32 = .int x
    rw [sx_b8e x hb.1 hb.2]
  · have hb := sx_in_ok g.nf hf
    rw [← hx] at hb
    show Value.int (vp_nar .char x) = .int x
    rw [vp_nar_char]
    congr 1
    refine Int32.toInt_inj.mp ?_
    obtain ⟨h4, h5⟩ := sx_nn (x := x.toBitVec) hb.1
    have h6 : x.toUInt32.toUInt16.toUInt32.toInt32.toBitVec.toNat = x.toBitVec.toNat % 65536 := by
      show x.toUInt32.toUInt16.toUInt32.toNat = _
      rw [UInt16.toNat_toUInt32, UInt32.toNat_toUInt16]
      rfl
    have h7 : x.toInt = x.toBitVec.toInt := rfl
    have h8 : x.toUInt32.toUInt16.toUInt32.toInt32.toInt = x.toUInt32.toUInt16.toUInt32.toInt32.toBitVec.toInt := rfl
    have h9 := BitVec.toInt_eq_toNat_of_lt (x := x.toUInt32.toUInt16.toUInt32.toInt32.toBitVec) (by omega)
    omega
  · cases hf
theorem sx_rt_ok {K : sx_KK} {it : ab_I} {β0 : Nat → Int} {h0 : ab_H} (g : sx_ok SP z L xs A β lv st h) (hn : sx_nx K.2.1 ≤ sx_nx A) (hag : sx_ag (sx_nx K.2.1) β0 β) (hfr : sx_fr K.2.2.1 h0 h) (hO : ∀ O ∈ K.2.2.2.2, O.1 = []) (h1 : ab_at M.2.2.2.2.2 pc = some it) (h2 : ab_kd it = 1) (hk : sx_rt SP K M it A = true) : ab_go d M pc lv st h (sx_post SP z L xs K β0 h0) := by
  unfold sx_rt at hk
  rw [Bool.and_eq_true] at hk
  obtain ⟨O, hO1, hO2⟩ := List.any_eq_true.mp hk.2
  obtain ⟨β1, a1, a2, -⟩ := sx_arr_ok g hn hO2
  have fin : ∀ r : Option Value, ab_rt M it st h = some (r, h) → r.toList = st → ab_go d M pc lv st h (sx_post SP z L xs K β0 h0) := fun r hr hrs => by
    refine sx_ret_go h1 h2 hr ⟨O, hO1, β1, hag.tr a1 (Nat.le_refl _), ?_, hfr⟩
    rw [hrs]
    refine ⟨fun q hq => ?_, a2.2⟩
    rw [hO O hO1] at hq
    cases hq
  have hk1 := hk.1
  split at hk1
  · rename_i hi
    split at hk1
    · rename_i e ty hst hty
      obtain ⟨b, q, rfl, hb, h3⟩ := sx_pi (g.sts hst)
      have hq : q = [] := by
        have := sx_st_len (h3 β sx_ag.rf)
        cases q with
        | nil => rfl
        | cons _ _ => cases this
      subst hq
      refine fin (some (.int b)) ?_ rfl
      unfold ab_rt
      rw [hi]
      dsimp only
      rw [hty]
      dsimp only
      rw [if_pos (sx_rfit_ok g.at (hb β sx_ag.rf) hk1)]
    · cases hk1
  · rename_i hi
    split at hk1
    · rename_i e hst
      obtain ⟨b, q, rfl, hb, h3⟩ := sx_pl (g.sts hst)
      have hq : q = [] := by
        have := sx_st_len (h3 β sx_ag.rf)
        cases q with
        | nil => rfl
        | cons _ _ => cases this
      subst hq
      refine fin (some (.long b)) ?_ rfl
      unfold ab_rt
      rw [hi]
      dsimp only
      rw [if_pos (of_decide_eq_true hk1)]
    · cases hk1
  · rename_i hi
    split at hk1
    · rename_i hst
      have hq : st = [] := by
        have := sx_st_len (g.sts hst β sx_ag.rf)
        cases st with
        | nil => rfl
        | cons _ _ => cases this
      subst hq
      refine fin none ?_ rfl
      unfold ab_rt
      rw [hi]
      dsimp only
      rw [if_pos (of_decide_eq_true hk1)]
    · cases hk1
  · cases hk1
theorem sx_find_ok {args : List sx_V} : ∀ {KS : List sx_KK} {K : sx_KK} {A' : sx_S} {m : List (Nat × sx_E)}, sx_find SP A args Mo d KS = some (K, A', m) → K ∈ KS ∧ K.2.2.1.all (fun k => Mo.contains k) = true ∧ K.2.2.2.1 + 1 ≤ d ∧ sx_fit1 SP A args K = some (A', m)
  | [], _, _, _, hf => by cases hf
  | K0 :: r, K, A', m, hf => by
    unfold sx_find at hf
    split at hf
    · rename_i hc
      rw [Bool.and_eq_true, decide_eq_true_eq] at hc
      split at hf
      · rename_i q hq
        cases hf
        exact ⟨List.mem_cons_self, hc.1, hc.2, hq⟩
      · obtain ⟨h1, h2⟩ := sx_find_ok hf
        exact ⟨List.mem_cons_of_mem _ h1, h2⟩
    · obtain ⟨h1, h2⟩ := sx_find_ok hf
      exact ⟨List.mem_cons_of_mem _ h1, h2⟩
def sx_mem (KT : sx_TT) (K : sx_KK) : Prop := K ∈ sx_of KT K.1
theorem sx_call_ok {KT : sx_TT} {K : sx_KK} {it : ab_I} {bs : List sx_S} (hKT : ∀ K', sx_mem KT K' → K'.2.2.2.1 < K.2.2.2.1 → sx_holds SP z L xs K') (hd : K.2.2.2.1 ≤ d) (g : sx_ok SP z L xs A β lv st h) (h1 : ab_at M.2.2.2.2.2 pc = some it) (h2 : ab_kd it = 2) (hc : sx_call SP KT K it A = some bs) (kk : ∀ B ∈ bs, ∀ β2 st' h', sx_nx A ≤ sx_nx B → sx_ag (sx_nx A) β β2 → sx_ok SP z L xs B β2 lv st' h' → sx_fr K.2.2.1 h h' → ab_go d M (pc + 3) lv st' h' Q) : ab_go d M pc lv st h Q := by
  unfold sx_call at hc
  split at hc
  · cases hc
  · rename_i M' hG
    split at hc
    · cases hc
    · rename_i q hq
      obtain ⟨args, rest⟩ := q
      split at hc
      · rename_i hw
        split at hc
        · cases hc
        · rename_i f hf
          obtain ⟨K', A', m⟩ := f
          split at hc
          · rename_i hmi
            cases hc
            dsimp only at hmi hq hf hw ⊢
            obtain ⟨f1, f2, f3, f4⟩ := sx_find_ok hf
            obtain ⟨As, qs, c1, c2⟩ := sx_args_ok hG g hq hw.1 hw.2
            have hh := hKT K' (by unfold sx_mem; rw [hmi]; exact f1) (by omega)
            unfold sx_fit1 at f4
            split at f4
            · cases f4
            · rename_i A2 hA2
              dsimp only at f4
              split at f4
              · rename_i hck
                rw [Bool.and_eq_true] at hck
                cases f4
                obtain ⟨β2, a1, a2, a3⟩ := sx_mats_ok g hA2
                have gp : sx_at SP z L xs K'.2.1 (fun s => sx_ev β2 (sx_sm 0 (sx_bind 0 (sx_k args A') K'.2.1) s)) lv As h := sx_chk_ok (a3.at.stk (c2 β2 a1).1) hck.1
                have gp2 : sx_at SP z L xs K'.2.1 (fun s => sx_ev β2 (sx_sm 0 (sx_bind 0 (sx_k args A') K'.2.1) s)) [] As h := ⟨fun q hq => absurd hq (by rw [hh.1.2]; exact List.not_mem_nil), gp.2⟩
                obtain ⟨d', rfl⟩ : ∃ d', d = d' + 1 := ⟨d - 1, by omega⟩
                have run := hh.2 M' (by rw [hmi]; exact hG) d' (by omega) _ As h gp2
                refine go_c h1 h2 c1 rfl run (fun r h' hp => ?_)
                obtain ⟨O, hO, β1, b1, b2, b3⟩ := hp
                have hO2 := List.all_eq_true.mp hh.1.1 O hO
                rw [Bool.and_eq_true, Bool.and_eq_true, decide_eq_true_eq, decide_eq_true_eq] at hO2
                obtain ⟨B, e1, e2, β3, e3, e4⟩ := sx_out_ok (K := K') (rest := rest) (q := qs) a3 hck.2 (fun s hs => b1 s hs) b2 hO2.1 hO2.2.2 (fun β' hag => (c2 β' (a1.tr hag a2)).2) b3
                exact kk B (List.mem_filterMap.mpr ⟨O, hO, e1⟩) β3 _ h' (Nat.le_trans a2 e2) (a1.tr e3 a2) e4 (b3.sub f2)
              · cases f4
          · cases hc
      · cases hc
/-- a run between annotated places -/
theorem sx_run_ok {KT : sx_TT} {K : sx_KK} {an : List sx_AA} {ma : Option sx_E} {na : Nat} {βa β0 : Nat → Int} {h0 : ab_H} (hKT : ∀ K', sx_mem KT K' → K'.2.2.2.1 < K.2.2.2.1 → sx_holds SP z L xs K') (hd : K.2.2.2.1 ≤ d) (hO : ∀ O ∈ K.2.2.2.2, O.1 = []) (hma : ∀ e, ma = some e → sx_wE na e = true)
    (IH : ∀ b ∈ an, ∀ β lv st h, sx_at SP z L xs b.2.1 β lv st h → sx_ag (sx_nx K.2.1) β0 β → sx_fr K.2.2.1 h0 h → (∀ e, ma = some e → sx_ev β b.2.2 + 1 ≤ sx_ev βa e) → ab_go d M b.1 lv st h (sx_post SP z L xs K β0 h0)) :
    ∀ (n pc : Nat) (A : sx_S) (β : Nat → Int) (lv : ab_L) (st : List Value) (h : ab_H), sx_run SP KT K M an ma n pc A = true → sx_ok SP z L xs A β lv st h → sx_ag (sx_nx K.2.1) β0 β → sx_nx K.2.1 ≤ sx_nx A → na ≤ sx_nx A → sx_ag na βa β → sx_fr K.2.2.1 h0 h → ab_go d M pc lv st h (sx_post SP z L xs K β0 h0) := by
  intro n
  induction n with
  | zero => intro pc A β lv st h hr; cases hr
  | succ n ih =>
    intro pc A β lv st h hr g hag hn hna haga hfr
    have nxt : ∀ (q : Nat × sx_S) (β2 : Nat → Int) (lv2 : ab_L) (st2 : List Value) (h2 : ab_H), sx_nxt SP (sx_nx K.2.1) an ma (sx_run SP KT K M an ma n) q = true → sx_nx A ≤ sx_nx q.2 → sx_ag (sx_nx A) β β2 → sx_ok SP z L xs q.2 β2 lv2 st2 h2 → sx_fr K.2.2.1 h h2 → ab_go d M q.1 lv2 st2 h2 (sx_post SP z L xs K β0 h0) := fun q β2 lv2 st2 h2 hq hnx hag2 g2 hf2 => by
      have hag3 : sx_ag (sx_nx K.2.1) β0 β2 := hag.tr hag2 hn
      have haga3 : sx_ag na βa β2 := haga.tr hag2 hna
      unfold sx_nxt at hq
      split at hq
      · obtain ⟨b, hb, hb2⟩ := List.any_eq_true.mp hq
        rw [Bool.and_eq_true] at hb2
        have e : b.1 = q.1 := eq_of_beq hb2.1
        obtain ⟨β1, a1, a2, a3⟩ := sx_arr_ok g2 (Nat.le_trans hn hnx) hb2.2
        rw [← e]
        refine IH b hb β1 lv2 st2 h2 a2 (hag3.tr a1 (Nat.le_refl _)) (hfr.tr hf2) (fun e he => ?_)
        have hw := hma e he
        have hw2 : sx_wE (sx_nx q.2) e = true := List.all_eq_true.mpr (fun t ht => decide_eq_true (Nat.lt_of_lt_of_le (of_decide_eq_true (List.all_eq_true.mp hw t ht)) (Nat.le_trans hna hnx)))
        rw [← sx_ev_ag haga3 hw]
        exact a3 e he hw2
      · exact ih q.1 q.2 β2 lv2 st2 h2 hq g2 hag3 (Nat.le_trans hn hnx) (Nat.le_trans hna hnx) haga3 (hfr.tr hf2)
    unfold sx_run at hr
    split at hr
    · cases hr
    · rename_i it hit
      split at hr
      · rename_i hk0
        split at hr
        · cases hr
        · rename_i l hl
          obtain ⟨pc', lv', st', h', B, β2, t1, t2, t3, t4, t5, t6⟩ := sx_sp_ok (z := z) (L := L) (xs := xs) g hl
          exact go_s hit hk0 t1 (nxt (pc', B) β2 lv' st' h' (List.all_eq_true.mp hr _ t2) t3 t4 t5 t6)
      · rename_i hk1
        exact sx_rt_ok g hn hag hfr hO hit hk1 hr
      · rename_i hk2
        split at hr
        · cases hr
        · rename_i bs hbs
          exact sx_call_ok hKT hd g hit hk2 hbs (fun B hB β2 st' h' k1 k2 k3 k4 => nxt (pc + 3, B) β2 lv st' h' (List.all_eq_true.mp hr B hB) k1 k2 k3 k4)
      · rename_i hk4
        split at hr
        · cases hr
        · rename_i l hl
          rw [Bool.and_eq_true, decide_eq_true_eq] at hr
          obtain ⟨pc', lv', st', h', B, β2, t1, t2, t3, t4, t5, t6⟩ := sx_sp_ok (z := z) (L := L) (xs := xs) g hl
          obtain ⟨d', rfl⟩ : ∃ d', d = d' + 1 := ⟨d - 1, by omega⟩
          exact sx_go4 hit hk4 t1 (nxt (pc', B) β2 lv' st' h' (List.all_eq_true.mp hr.1 _ t2) t3 t4 t5 t6)
      · cases hr
/-- an annotated place -/
theorem sx_place_ok {KT : sx_TT} {K : sx_KK} {an : List sx_AA} {β0 : Nat → Int} {h0 : ab_H} {n : Nat} (hKT : ∀ K', sx_mem KT K' → K'.2.2.2.1 < K.2.2.2.1 → sx_holds SP z L xs K') (hd : K.2.2.2.1 ≤ d) (hO : ∀ O ∈ K.2.2.2.2, O.1 = []) (han : an.all (sx_plok (sx_nx K.2.1)) = true) (hrun : an.all (fun b => sx_run SP KT K M an (some b.2.2) n b.1 b.2.1) = true) :
    ∀ (k : Nat), ∀ b ∈ an, ∀ β lv st h, sx_ev β b.2.2 < k → sx_at SP z L xs b.2.1 β lv st h → sx_ag (sx_nx K.2.1) β0 β → sx_fr K.2.2.1 h0 h → ab_go d M b.1 lv st h (sx_post SP z L xs K β0 h0) := by
  intro k
  induction k with
  | zero =>
    intro b hb β lv st h hm g
    have hp := List.all_eq_true.mp han b hb
    unfold sx_plok at hp
    rw [Bool.and_eq_true, Bool.and_eq_true, Bool.and_eq_true] at hp
    have h1 := sx_le_ok g.nf hp.2.2.2
    rw [sx_ev_neg] at h1
    omega
  | succ k ih =>
    intro b hb β lv st h hm g hag hfr
    have hp := List.all_eq_true.mp han b hb
    unfold sx_plok at hp
    rw [Bool.and_eq_true, Bool.and_eq_true, Bool.and_eq_true, decide_eq_true_eq] at hp
    refine sx_run_ok (na := sx_nx b.2.1) (βa := β) (ma := some b.2.2) hKT hd hO (fun e he => by cases he; exact hp.2.2.1) (fun b2 hb2 β2 lv2 st2 h2 g2 hag2 hfr2 hme => ?_) n b.1 b.2.1 β lv st h (List.all_eq_true.mp hrun b hb) (sx_wS_ok hp.1 g) hag hp.2.1 (Nat.le_refl _) sx_ag.rf hfr
    have := hme b.2.2 rfl
    exact ih b2 hb2 β2 lv2 st2 h2 (by omega) g2 hag2 hfr2
theorem sx_place {KT : sx_TT} {K : sx_KK} {an : List sx_AA} {β0 : Nat → Int} {h0 : ab_H} {n : Nat} (hKT : ∀ K', sx_mem KT K' → K'.2.2.2.1 < K.2.2.2.1 → sx_holds SP z L xs K') (hd : K.2.2.2.1 ≤ d) (hO : ∀ O ∈ K.2.2.2.2, O.1 = []) (han : an.all (sx_plok (sx_nx K.2.1)) = true) (hrun : an.all (fun b => sx_run SP KT K M an (some b.2.2) n b.1 b.2.1) = true) {b : sx_AA} (hb : b ∈ an) (g : sx_at SP z L xs b.2.1 β lv st h) (hag : sx_ag (sx_nx K.2.1) β0 β) (hfr : sx_fr K.2.2.1 h0 h) : ab_go d M b.1 lv st h (sx_post SP z L xs K β0 h0) :=
  sx_place_ok hKT hd hO han hrun ((sx_ev β b.2.2).toNat + 1) b hb β lv st h (by omega) g hag hfr
theorem sx_argl_ok : ∀ {vs : List sx_V} {ws : List Value} {i : Nat}, sx_st β vs ws → ∀ q ∈ sx_argl i vs, i ≤ q.1 ∧ ∃ w, ab_lk (lv_args i ws) q.1 = some w ∧ sx_v β q.2 w
  | [], [], _, _, q, hq => by cases hq
  | v :: r, w :: ws, i, hst, q, hq => by
    have hc : (if w.category = 2 then i + 2 else i + 1) = (if sx_two v = true then i + 2 else i + 1) := by
      have h1 := sx_two_cat hst.1
      by_cases h2 : sx_two v = true
      · rw [h2] at h1
        rw [if_pos h2, if_pos (eq_of_beq h1)]
      · rw [if_neg h2, if_neg (fun e => h2 (by rw [← h1, e]; rfl))]
    rcases List.mem_cons.mp hq with rfl | hq
    · refine ⟨Nat.le_refl _, w, ?_, hst.1⟩
      show (if i = i then some w else _) = some w
      rw [if_pos rfl]
    · obtain ⟨h1, w2, h2, h3⟩ := sx_argl_ok (i := if sx_two v = true then i + 2 else i + 1) hst.2 q hq
      have hlt : i < q.1 := by
        split at h1 <;> omega
      refine ⟨by omega, w2, ?_, h3⟩
      show (if i = q.1 then some w else ab_lk (lv_args (if w.category = 2 then i + 2 else i + 1) ws) q.1) = some w2
      rw [if_neg (by omega), hc]
      exact h2
  | [], _ :: _, _, hst, _, _ => hst.elim
  | _ :: _, [], _, hst, _, _ => hst.elim
theorem sx_ent_ok {es : List sx_E} : ∀ {A : sx_S}, es.all (sx_wE (sx_nx A)) = true → sx_ok SP z L xs A β lv st h → ∃ B ∈ sx_ent es A, sx_nx B = sx_nx A ∧ sx_ok SP z L xs B β lv st h := by
  induction es with
  | nil => intro A _ g; exact ⟨A, List.mem_singleton.mpr rfl, rfl, g⟩
  | cons e r ih =>
    intro A hw g
    rw [List.all_cons, Bool.and_eq_true] at hw
    have key : ∃ C ∈ sx_ls (sx_as A e) ++ sx_ls (sx_as A (sx_ak (sx_neg e) 1)), sx_nx C = sx_nx A ∧ sx_ok SP z L xs C β lv st h := by
      by_cases h0 : sx_ev β e ≤ 0
      · obtain ⟨C, h1, h2, h3⟩ := sx_as_go g (e := e) (fun β' ha => by rw [sx_ev_ag ha hw.1]; exact h0)
        rw [h1]
        exact ⟨C, List.mem_append_left _ (List.mem_singleton.mpr rfl), h2, h3⟩
      · obtain ⟨C, h1, h2, h3⟩ := sx_as_go g (e := sx_ak (sx_neg e) 1) (fun β' ha => by rw [sx_ev_ak, sx_ev_neg, sx_ev_ag ha hw.1]; omega)
        rw [h1]
        exact ⟨C, List.mem_append_right _ (List.mem_singleton.mpr rfl), h2, h3⟩
    obtain ⟨C, c1, c2, c3⟩ := key
    obtain ⟨B, b1, b2, b3⟩ := ih (A := C) (by rw [c2]; exact hw.2) c3
    exact ⟨B, List.mem_flatMap.mpr ⟨C, c1, b1⟩, b2.trans c2, b3⟩
/-- what the checker holds is true -/
theorem sx_kok_ok {KT : sx_TT} {K : sx_KK} {an : List sx_AA} {sp : List sx_E} {n : Nat} (hk : sx_kok SP KT K an sp n = true) (hKT : ∀ K', sx_mem KT K' → K'.2.2.2.1 < K.2.2.2.1 → sx_holds SP z L xs K') : sx_holds SP z L xs K := by
  unfold sx_kok at hk
  split at hk
  · cases hk
  · rename_i M hG
    rw [Bool.and_eq_true, Bool.and_eq_true, Bool.and_eq_true, Bool.and_eq_true, Bool.and_eq_true, Bool.and_eq_true, decide_eq_true_eq] at hk
    obtain ⟨⟨k1, k2⟩, ⟨k3, k4⟩, k5, k6, k7⟩ := hk
    have hO : ∀ O ∈ K.2.2.2.2, O.1 = [] := fun O hO => by
      have := List.all_eq_true.mp k3 O hO
      rw [Bool.and_eq_true, Bool.and_eq_true, decide_eq_true_eq] at this
      exact this.2.1
    refine ⟨⟨k3, k1⟩, fun M' hM' d hd β As h g => ?_⟩
    rw [hG] at hM'
    cases hM'
    have g0 : sx_at SP z L xs (sx_ent0 K) β (lv_args 0 As) [] h := ⟨fun q hq => (sx_argl_ok g.2.1 q hq).2, trivial, g.2.2⟩
    have gk := sx_wS_ok k2 g
    have g1 : sx_ok SP z L xs (sx_ent0 K) β (lv_args 0 As) [] h := fun β' ha => by
      have g2 := gk β' ha
      exact ⟨fun q hq => (sx_argl_ok g2.2.1 q hq).2, trivial, g2.2.2⟩
    obtain ⟨B, b1, b2, b3⟩ := sx_ent_ok (A := sx_ent0 K) k4 g1
    exact sx_run_ok (na := 0) (βa := β) (ma := none) (an := an) hKT hd hO (fun e he => by cases he) (fun b hb β2 lv2 st2 h2 g2 hag2 hfr2 _ => sx_place hKT hd hO k5 k7 hb g2 hag2 hfr2) n 0 B β (lv_args 0 As) [] h (List.all_eq_true.mp k6 B b1) b3 sx_ag.rf (Nat.le_of_eq b2.symm) (Nat.zero_le _) (fun s hs => absurd hs (Nat.not_lt_zero _)) sx_fr.rf
/-- all contracts of a table: each by the checker, or by hand, over those that need fewer frames -/
theorem sx_all {KT : sx_TT} (hall : ∀ K, sx_mem KT K → (∀ K', sx_mem KT K' → K'.2.2.2.1 < K.2.2.2.1 → sx_holds SP z L xs K') → sx_holds SP z L xs K) : ∀ K, sx_mem KT K → sx_holds SP z L xs K := by
  have key : ∀ (n : Nat) (K : sx_KK), K.2.2.2.1 < n → sx_mem KT K → sx_holds SP z L xs K := by
    intro n
    induction n with
    | zero => intro K hK; omega
    | succ n ih => intro K hK hm; exact hall K hm (fun K' hm' hlt => ih K' (by omega) hm')
  exact fun K hm => key _ K (Nat.lt_succ_self _) hm
end SXG
