/-! ===== the wider checker is sound: calls ===== -/
section SXF
variable {SP : List sx_C} {z L : Nat} {xs : Nat → Int32} {Mo : List Nat} {β β' : Nat → Int} {A B : sx_S} {lv lv' : ab_L} {st st' : List Value} {h h' : ab_H} {l : List (Nat × sx_S)} {pc p n i nL nx : Nat}
theorem sx_st_len : ∀ {vs : List sx_V} {ws : List Value}, sx_st β vs ws → vs.length = ws.length
  | [], [], _ => rfl
  | v :: r, w :: q, hq => by rw [List.length_cons, List.length_cons, sx_st_len hq.2]
  | [], _ :: _, hq => hq.elim
  | _ :: _, [], hq => hq.elim
theorem sx_st_td : ∀ {vs : List sx_V} {ws : List Value} (k : Nat), sx_st β vs ws → sx_st β (vs.take k) (ws.take k) ∧ sx_st β (vs.drop k) (ws.drop k)
  | vs, ws, 0, hq => ⟨by rw [List.take_zero, List.take_zero]; trivial, hq⟩
  | [], [], k + 1, _ => ⟨trivial, trivial⟩
  | v :: r, w :: q, k + 1, hq => ⟨⟨hq.1, (sx_st_td k hq.2).1⟩, (sx_st_td k hq.2).2⟩
  | [], _ :: _, _ + 1, hq => hq.elim
  | _ :: _, [], _ + 1, hq => hq.elim
theorem sx_st_app {bs : List sx_V} {ys : List Value} (hb : sx_st β bs ys) : ∀ {as : List sx_V} {xs : List Value}, sx_st β as xs → sx_st β (as ++ bs) (xs ++ ys)
  | [], [], _ => hb
  | v :: r, w :: q, hq => ⟨hq.1, sx_st_app hb hq.2⟩
  | [], _ :: _, hq => hq.elim
  | _ :: _, [], hq => hq.elim
theorem sx_st_rev : ∀ {as : List sx_V} {xs : List Value}, sx_st β as xs → sx_st β as.reverse xs.reverse
  | [], [], _ => trivial
  | v :: r, w :: q, hq => by
    rw [List.reverse_cons, List.reverse_cons]
    exact sx_st_app (bs := [v]) (ys := [w]) ⟨hq.1, trivial⟩ (sx_st_rev hq.2)
  | [], _ :: _, hq => hq.elim
  | _ :: _, [], hq => hq.elim
theorem sx_sl_len : ∀ (As : List Value), (lg_sl As).length = (As.map fun v => v.category).sum
  | [] => rfl
  | v :: r => by
    have ih := sx_sl_len r
    unfold lg_sl at ih ⊢
    rw [List.flatMap_cons, List.length_append, ih, List.map_cons, List.sum_cons]
    congr 1
    cases v <;> rfl
theorem sx_args_ok {M : ab_M} {it : ab_I} {args rest : List sx_V} (hG : ab_G it.2.2.2.1 = some M) (g : sx_ok SP z L xs A β lv st h) (ha : sx_args SP M it A = some (args, rest)) (w1 : sx_wt args ≤ M.2.2.1) (w2 : sx_wt rest ≤ 8) : ∃ As q, ab_cal ab_G it st h = some (M, As, q) ∧ ∀ β', sx_ag (sx_nx A) β β' → sx_st β' args As ∧ sx_st β' rest q := by
  have hS := g.sts rfl
  have h0 := hS β sx_ag.rf
  have cok : ∀ {as rs : List sx_V} {As q : List Value}, sx_st β as As → sx_st β rs q → sx_wt as ≤ M.2.2.1 → sx_wt rs ≤ 8 → ab_cok M As q = true := fun h1 h2 k1 k2 => by
    unfold ab_cok
    rw [Bool.and_eq_true, decide_eq_true_eq, decide_eq_true_eq, sx_sl_len, sx_wt_ok h1, sx_wt_ok h2]
    exact ⟨k1, k2⟩
  unfold sx_args at ha
  split at ha
  · rename_i hlen
    have hl2 : (st.take it.2.2.2.2.1).length = it.2.2.2.2.1 := by rw [← sx_st_len (sx_st_td it.2.2.2.2.1 h0).1]; exact hlen
    split at ha
    · rename_i h13
      split at ha
      · rename_i hk
        cases ha
        refine ⟨(st.take it.2.2.2.2.1).reverse, st.drop it.2.2.2.2.1, ?_, fun β' hag => ⟨sx_st_rev (sx_st_td _ (hS β' hag)).1, (sx_st_td _ (hS β' hag)).2⟩⟩
        unfold ab_cal
        rw [hG]
        dsimp only
        rw [if_pos hl2, if_pos h13, if_pos ⟨hk, cok (sx_st_rev (sx_st_td _ h0).1) (sx_st_td _ h0).2 w1 w2⟩]
      · cases ha
    · rename_i h13
      split at ha
      · rename_i a rst hd
        have hD : ∀ β', sx_ag (sx_nx A) β β' → sx_st β' (.inr (1, a) :: rst) (st.drop it.2.2.2.2.1) := fun β' hag => by
          rw [← hd]
          exact (sx_st_td _ (hS β' hag)).2
        obtain ⟨q, hq, h2⟩ := sx_pr hD
        split at ha
        · rename_i k0
          split at ha
          · rename_i ci fs hcel
            split at ha
            · rename_i hk
              cases ha
              obtain ⟨r1, r2, r3⟩ := sx_cel_ok hcel g.at.2.2.2.2.2.2
              obtain ⟨ws, ew, -, -⟩ := sx_c_o r2
              rw [ew] at r1
              refine ⟨.ref a :: (st.take it.2.2.2.2.1).reverse, q, ?_, fun β' hag => ⟨⟨rfl, sx_st_rev (sx_st_td _ (hS β' hag)).1⟩, h2 β' hag⟩⟩
              have hck := cok (as := .inr (1, a) :: (A.2.1.take it.2.2.2.2.1).reverse) (As := .ref a :: (st.take it.2.2.2.2.1).reverse) ⟨rfl, sx_st_rev (sx_st_td _ h0).1⟩ (h2 β sx_ag.rf) w1 w2
              unfold ab_cal
              rw [hG]
              dsimp only
              rw [if_pos hl2, if_neg h13, hq]
              dsimp only
              rw [if_pos k0, r1]
              dsimp only
              rw [if_pos ⟨hk.1, hk.2, hck⟩]
            · cases ha
          · cases ha
        · cases ha
      · rename_i k rst hd
        have hD : ∀ β', sx_ag (sx_nx A) β β' → sx_st β' (.inr (2, k) :: rst) (st.drop it.2.2.2.2.1) := fun β' hag => by
          rw [← hd]
          exact (sx_st_td _ (hS β' hag)).2
        obtain ⟨q, hq, h2⟩ := sx_px hD
        split at ha
        · rename_i hk
          cases ha
          refine ⟨.retAddr k :: (st.take it.2.2.2.2.1).reverse, q, ?_, fun β' hag => ⟨⟨rfl, sx_st_rev (sx_st_td _ (hS β' hag)).1⟩, h2 β' hag⟩⟩
          have hck := cok (as := .inr (2, k) :: (A.2.1.take it.2.2.2.2.1).reverse) (As := .retAddr k :: (st.take it.2.2.2.2.1).reverse) ⟨rfl, sx_st_rev (sx_st_td _ h0).1⟩ (h2 β sx_ag.rf) w1 w2
          unfold ab_cal
          rw [hG]
          dsimp only
          rw [if_pos hl2, if_neg h13, hq]
          dsimp only
          rw [if_pos ⟨hk.1, hk.2.1, hk.2.2, hck⟩]
        · cases ha
      · cases ha
  · cases ha
theorem sx_lus_mem {s : Nat} {e : sx_E} : ∀ {m : List (Nat × sx_E)}, sx_lus s m = some e → (s, e) ∈ m
  | [], h => by cases h
  | q :: r, h => by
    unfold sx_lus at h
    by_cases hq : q.1 = s
    · rw [if_pos hq] at h
      cases h
      subst hq
      exact List.mem_cons_self
    · rw [if_neg hq] at h
      exact List.mem_cons_of_mem _ (sx_lus_mem h)
theorem sx_sm_w {m : List (Nat × sx_E)} (hm : m.all (fun q => sx_wE n q.2) = true) (s : Nat) : sx_wE n (sx_sm 0 m s) = true := by
  unfold sx_sm
  rw [if_neg (Nat.not_lt_zero _)]
  split
  · rename_i e he
    exact List.all_eq_true.mp hm _ (sx_lus_mem he)
  · rfl
theorem sx_v_sb {σ : Nat → sx_E} {v : sx_V} {w : Value} (hv : sx_v (fun s => sx_ev β (σ s)) v w) : sx_v β (sx_sbV σ v) w := by
  unfold sx_v at hv
  split at hv
  · exact hv.trans (sx_ev_sb β σ _).symm
  · exact hv.trans (sx_ev_sb β σ _).symm
  · intro c
    rw [show sx_ev β (sx_sb σ _) = _ from sx_ev_sb β σ _]
    exact hv c
  · exact hv
  · exact hv
  · exact hv.elim
theorem sx_st_sb {σ : Nat → sx_E} : ∀ {vs : List sx_V} {ws : List Value}, sx_st (fun s => sx_ev β (σ s)) vs ws → sx_st β (vs.map (sx_sbV σ)) ws
  | [], [], _ => trivial
  | v :: r, w :: q, hq => ⟨sx_v_sb hq.1, sx_st_sb hq.2⟩
  | [], _ :: _, hq => hq.elim
  | _ :: _, [], hq => hq.elim
theorem sx_fr_fd {key : Nat} (hf : sx_fr Mo h h') (hk : Mo.contains key = false) (h7 : key % 128 ≠ 127) : sx_fd h' key = sx_fd h key := by
  have h1 := hf key hk
  unfold sx_ob at h1
  rw [if_neg h7, if_neg h7] at h1
  cases ha : sx_fd h key with
  | none =>
    rw [ha] at h1
    cases hb : sx_fd h' key with
    | none => rfl
    | some v => rw [hb] at h1; cases h1
  | some w =>
    rw [ha] at h1
    cases hb : sx_fd h' key with
    | none => rw [hb] at h1; cases h1
    | some v => rw [hb] at h1; cases h1; rfl
theorem sx_fr_el {q : Nat × sx_E × sx_V} (hf : sx_fr Mo h h') (hk : Mo.contains (q.1 * 128 + 127) = false) (h1 : h'.1 = h.1) (he : sx_el β q h) : sx_el β q h' := by
  have h2 := hf _ hk
  unfold sx_ob at h2
  rw [if_pos (by omega), if_pos (by omega), show (q.1 * 128 + 127) / 128 = q.1 by omega] at h2
  have key : ab_rd h' q.1 = ab_rd h q.1 := by
    unfold sx_el at he
    unfold ab_rd at he ⊢
    rw [h1]
    by_cases hq : q.1 < h.1
    · rw [if_pos hq] at he ⊢
      rw [if_pos hq]
      cases ha : h.2.2 q.1 with
      | inl c =>
        rw [ha] at h2
        cases hb : h'.2.2 q.1 with
        | inl c' => rw [hb] at h2; cases h2; rfl
        | inr c' => rw [hb] at h2; cases h2
      | inr c => rw [ha] at he; exact he.elim
    · rw [if_neg hq] at he
      exact he.elim
  unfold sx_el at he ⊢
  rw [key]
  exact he
/-- the state behind a call -/
theorem sx_out_ok {K : sx_KK} {m : List (Nat × sx_E)} {rest : List sx_V} {O : sx_S} {β1 : Nat → Int} {ret q : List Value} (g : sx_ok SP z L xs A β lv st h) (hm : m.all (fun q => sx_wE (sx_nx A) q.2) = true) (hβ : ∀ s, s < sx_nx K.2.1 → β1 s = sx_ev β (sx_sm 0 m s)) (gO : sx_at SP z L xs O β1 [] ret h') (wO : sx_wS O = true) (hn : sx_nx K.2.1 ≤ sx_nx O) (hr : ∀ β', sx_ag (sx_nx A) β β' → sx_st β' rest q) (hf : sx_fr K.2.2.1 h h') : ∃ B, sx_out K m rest A O = some B ∧ sx_nx A ≤ sx_nx B ∧ ∃ β2, sx_ag (sx_nx A) β β2 ∧ sx_ok SP z L xs B β2 lv (ret ++ q) h' := by
  have ag2 : sx_ag (sx_nx A) β (fun s => if s < sx_nx A then β s else β1 (sx_nx K.2.1 + (s - sx_nx A))) := fun s hs => if_pos hs
  have key : ∀ β', sx_ag (sx_nx A + (sx_nx O - sx_nx K.2.1)) (fun s => if s < sx_nx A then β s else β1 (sx_nx K.2.1 + (s - sx_nx A))) β' → sx_ag (sx_nx A) β β' ∧ sx_at SP z L xs O (fun s => sx_ev β' (sx_so K m (sx_nx A) s)) [] ret h' := fun β' ha => by
    have ha1 : sx_ag (sx_nx A) β β' := fun s hs => by
      rw [ha s (by omega)]
      exact if_pos hs
    refine ⟨ha1, sx_wS_ok wO gO _ (fun s hs => ?_)⟩
    show sx_ev β' (sx_so K m (sx_nx A) s) = β1 s
    unfold sx_so
    by_cases h1 : s < sx_nx K.2.1
    · rw [if_pos h1, sx_ev_ag ha1 (sx_sm_w hm s)]
      exact (hβ s h1).symm
    · rw [if_neg h1, sx_ev_Y, ha _ (by omega)]
      dsimp only
      rw [if_neg (by omega)]
      congr 1
      omega
  have gh : h'.1 = h.1 := gO.2.2.2.2.2.2.1.trans g.at.2.2.2.2.2.2.1.symm
  have gS : sx_ok SP z L xs (A.1, O.2.1.map (sx_sbV (sx_so K m (sx_nx A))) ++ rest, O.2.2.1.map (fun q => (q.1, sx_sbV (sx_so K m (sx_nx A)) q.2)) ++ A.2.2.1.filter (fun q => !(K.2.2.1.contains q.1) && !(q.1 % 128 == 127)), A.2.2.2.1.filter (fun q => !(K.2.2.1.contains (q.1 * 128 + 127))), (O.2.2.2.2.1.filter (fun q => !(decide (q.1 < sx_nx K.2.1)))).map (fun q => (sx_nx A + (q.1 - sx_nx K.2.1), q.2)) ++ A.2.2.2.2.1, A.2.2.2.2.2.1, sx_nx A + (sx_nx O - sx_nx K.2.1)) (fun s => if s < sx_nx A then β s else β1 (sx_nx K.2.1 + (s - sx_nx A))) lv (ret ++ q) h' := fun β' ha => by
    obtain ⟨ha1, gO'⟩ := key β' ha
    have gA := g β' ha1
    refine ⟨gA.1, sx_st_app (hr β' ha1) (sx_st_sb gO'.2.1), fun u hu => ?_, fun u hu => ?_, fun u hu => ?_, gA.2.2.2.2.2.1, gO.2.2.2.2.2.2⟩
    · rcases List.mem_append.mp hu with hu | hu
      · obtain ⟨v, hv, rfl⟩ := List.mem_map.mp hu
        obtain ⟨w, h1, h2⟩ := gO'.2.2.1 v hv
        exact ⟨w, h1, sx_v_sb h2⟩
      · obtain ⟨h1, h2⟩ := List.mem_filter.mp hu
        rw [Bool.and_eq_true, Bool.not_eq_true', Bool.not_eq_true'] at h2
        obtain ⟨w, h3, h4⟩ := gA.2.2.1 u h1
        refine ⟨w, ?_, h4⟩
        rw [sx_fr_fd hf h2.1 (by simpa using h2.2)]
        exact h3
    · obtain ⟨h1, h2⟩ := List.mem_filter.mp hu
      rw [Bool.not_eq_true'] at h2
      exact sx_fr_el hf h2 gh (gA.2.2.2.1 u h1)
    · rcases List.mem_append.mp hu with hu | hu
      · obtain ⟨v, hv, rfl⟩ := List.mem_map.mp hu
        obtain ⟨h1, h2⟩ := List.mem_filter.mp hv
        have h3 : ¬ v.1 < sx_nx K.2.1 := by simpa using h2
        have h4 := gO'.2.2.2.2.1 v h1
        dsimp only at h4
        unfold sx_so at h4
        rw [if_neg h3, sx_ev_Y] at h4
        exact h4
      · exact gA.2.2.2.2.1 u hu
  have hfa : ∀ e ∈ (O.2.2.2.2.1.filter (fun q => decide (q.1 < sx_nx K.2.1))).flatMap (fun q => [sx_ak (sx_so K m (sx_nx A) q.1) (-q.2.2), sx_ak (sx_neg (sx_so K m (sx_nx A) q.1)) q.2.1]) ++ O.2.2.2.2.2.1.map (sx_sb (sx_so K m (sx_nx A))), ∀ β', sx_ag (sx_nx A + (sx_nx O - sx_nx K.2.1)) (fun s => if s < sx_nx A then β s else β1 (sx_nx K.2.1 + (s - sx_nx A))) β' → sx_ev β' e ≤ 0 := fun e he β' ha => by
    obtain ⟨ha1, gO'⟩ := key β' ha
    rcases List.mem_append.mp he with he | he
    · obtain ⟨v, hv, he⟩ := List.mem_flatMap.mp he
      have h4 := gO'.2.2.2.2.1 v (List.mem_filter.mp hv).1
      dsimp only at h4
      rcases List.mem_cons.mp he with rfl | he
      · rw [sx_ev_ak]
        omega
      · rw [List.mem_singleton] at he
        subst he
        rw [sx_ev_ak, sx_ev_neg]
        omega
    · obtain ⟨f, hf', rfl⟩ := List.mem_map.mp he
      rw [sx_ev_sb]
      exact gO'.2.2.2.2.2.1 f hf'
  obtain ⟨B, b1, b2, b3⟩ := sx_ass_go gS hfa
  refine ⟨B, b1, ?_, _, ag2, b3⟩
  rw [b2]
  exact Nat.le_add_right _ _
end SXF
