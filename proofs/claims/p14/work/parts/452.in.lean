/-! ===== a call on both sides, by pure functions: what every row shares ===== -/
/-- cells that are the same in two memories -/
def vs (lo hi : Nat) (c c' : dc_M) : Prop := ∀ b, lo ≤ b → b < hi → c'.1 b = c.1 b ∧ c'.2.1 b = c.2.1 b ∧ c'.2.2.1 b = c.2.2.1 b ∧ c'.2.2.2 b = c.2.2.2 b
theorem fr_len : sx_SP.length = 119 := by decide +kernel
theorem fr_ok : sx_SP.all (fun c => match c with | .inr q => decide (q.2.length ≤ 125) | .inl _ => true) = true := by decide +kernel
theorem fr_k {mo : List Nat} {b k : Nat} (hm : mo.all (fun x => !decide (x / 128 = b)) = true) (hk : k / 128 = b) : mo.contains k = false := by
  cases hc : mo.contains k with
  | false => rfl
  | true =>
    have q := List.all_eq_true.mp hm k (List.contains_iff_mem.mp hc)
    rw [decide_eq_true hk] at q
    cases q
section FR
variable {z L d : Nat} {xs : Nat → Int32} {h h' : ab_H} {mo : List Nat}
/-- a cell of which nothing is written is the same -/
theorem fr_cell (hfr : sx_fr mo h h') (hh : sx_h sx_SP z L xs h) (hh' : sx_h sx_SP z L xs h') {b : Nat} (h0 : 1 ≤ b) (h1 : b < 120) (hm : mo.all (fun x => !decide (x / 128 = b)) = true) : h'.2.2 b = h.2.2 b := by
  obtain ⟨j, rfl⟩ : ∃ j, b = j + 1 := ⟨b - 1, by omega⟩
  have hj : j < sx_SP.length := by rw [fr_len]; omega
  have hc : sx_cel sx_SP (j + 1) = some sx_SP[j] := List.getElem?_eq_getElem hj
  have hlen := List.all_eq_true.mp fr_ok sx_SP[j] (List.getElem_mem hj)
  generalize sx_SP[j] = c at hc hlen
  obtain ⟨r1, r2, -⟩ := sx_cel_ok hc hh
  obtain ⟨r1', r2', -⟩ := sx_cel_ok hc hh'
  cases c with
  | inl q =>
    have k := hfr ((j + 1) * 128 + 127) (fr_k hm (by omega))
    unfold sx_ob at k
    rw [if_pos (by omega), if_pos (by omega), show ((j + 1) * 128 + 127) / 128 = j + 1 by omega] at k
    cases he : h.2.2 (j + 1) with
    | inr w => rw [he] at r2; exact r2.elim
    | inl w =>
      cases he' : h'.2.2 (j + 1) with
      | inr w' => rw [he'] at r2'; exact r2'.elim
      | inl w' =>
        rw [he, he'] at k
        have k := Sum.inr.inj (Option.some.inj k)
        exact k.symm
  | inr q =>
    obtain ⟨ci, fs⟩ := q
    obtain ⟨ws, ew, hl, -⟩ := sx_c_o r2
    obtain ⟨ws', ew', hl', -⟩ := sx_c_o r2'
    rw [ew] at r1
    rw [ew'] at r1'
    have hlen : fs.length ≤ 125 := of_decide_eq_true hlen
    rw [ew, ew']
    congr 2
    refine List.ext_getElem? (fun k => ?_)
    by_cases hk : k < 125
    · have q := sx_fr_fd (key := (j + 1) * 128 + k) hfr (fr_k hm (by omega)) (by omega)
      rw [sx_fd_o r1 (by omega), sx_fd_o r1' (by omega)] at q
      exact q
    · rw [List.getElem?_eq_none (by omega), List.getElem?_eq_none (by omega)]
theorem fr_vs (hfr : sx_fr mo h h') (hh : sx_h sx_SP z L xs h) (hh' : sx_h sx_SP z L xs h') {lo hi : Nat} (h0 : 1 ≤ lo) (h1 : hi ≤ 120) (hm : mo.all (fun x => decide (x / 128 < lo) || decide (hi ≤ x / 128)) = true) : vs lo hi (dc_vw h) (dc_vw h') := fun b b1 b2 => by
  have e := fr_cell hfr hh hh' (b := b) (by omega) (by omega) (List.all_eq_true.mpr (fun x hx => by
    have q := List.all_eq_true.mp hm x hx
    rw [Bool.or_eq_true] at q
    rw [decide_eq_false (fun z => by
      rcases q with q | q
      · have := of_decide_eq_true q; omega
      · have := of_decide_eq_true q; omega)]
    rfl))
  refine ⟨?_, ?_, ?_, ?_⟩
  · show (fun k => dc_vi (h'.2.2 b) k) = fun k => dc_vi (h.2.2 b) k
    rw [e]
  · show (fun k => dc_vl (h'.2.2 b) k) = fun k => dc_vl (h.2.2 b) k
    rw [e]
  · show (fun k => dc_vr (h'.2.2 b) k) = fun k => dc_vr (h.2.2 b) k
    rw [e]
  · show dc_vt (h'.2.2 b) = dc_vt (h.2.2 b)
    rw [e]
/-! reader.net is null or a cell -/
def pr_N (h : ab_H) : Prop := ∃ v, sx_fd h 264 = some v ∧ (v = .null ∨ ∃ b, v = .ref b)
theorem dc_fk54 {ci k : Nat} (h : ¬ (ci = 4 ∧ k = 8)) : dc_fk 5 ci k = dc_fk 4 ci k := by
  unfold dc_fk
  split
  all_goals first
    | rfl
    | (rw [if_neg h, if_neg h])
theorem pr_wf4 (hh : sx_h sx_SP z L xs h) (hn : pr_N h) : dc_wf 4 h := fun a ha => by
  have q := gd_wf hh a ha
  cases he : h.2.2 a with
  | inl w =>
    rw [he] at q
    obtain ⟨t, n, c⟩ := w
    rcases c with c | c | c <;> exact q
  | inr w =>
    obtain ⟨ci, ws⟩ := w
    rw [he] at q
    refine ⟨q.1, fun k v hk => ?_⟩
    by_cases e : ci = 4 ∧ k = 8
    · obtain ⟨rfl, rfl⟩ := e
      have ea := q.1 rfl
      subst ea
      obtain ⟨v', g1, g2⟩ := hn
      have r : ab_rd h 2 = some (.inr (4, ws)) := by
        unfold ab_rd
        rw [if_pos ha, he]
      have g1 : sx_fd h (2 * 128 + 8) = some v' := g1
      rw [sx_fd_o r (by decide), hk] at g1
      cases g1
      exact g2
    · rw [← dc_fk54 e]
      exact q.2 k v hk
theorem pr_cel2 : ∃ fs : List sx_F, sx_cel sx_SP 2 = some (.inr (4, fs)) ∧ fs.length = 9 := ⟨_, rfl, rfl⟩
theorem pr_of (hh : sx_h sx_SP z L xs h) (wf : dc_wf 4 h) : pr_N h := by
  obtain ⟨fs, hc, hl⟩ := pr_cel2
  obtain ⟨ws, r, hl2, -⟩ := gd_o hc hh
  have hb : 8 < ws.length := by omega
  have w := dc_we_of wf r
  have hk : ws[8]? = some ws[8] := List.getElem?_eq_getElem hb
  refine ⟨ws[8], ?_, w.2 8 _ hk⟩
  show sx_fd h (2 * 128 + 8) = _
  rw [sx_fd_o r (by decide), hk]
theorem pr_fr (hfr : sx_fr mo h h') (hm : mo.contains 264 = false) (hn : pr_N h) : pr_N h' := by
  obtain ⟨v, g1, g2⟩ := hn
  exact ⟨v, (sx_fr_fd hfr hm (by decide)).trans g1, g2⟩
/-! which net stands -/
theorem gm_cel : ∃ fs : List sx_F, sx_cel sx_SP 1 = some (.inr (9, fs)) ∧ fs[7]? = some (2, 0, 0, [41, 52]) ∧ fs[8]? = some (2, 0, 0, [41, 52]) := ⟨_, rfl, rfl, rfl⟩
theorem gm_of (hh : sx_h sx_SP z L xs h) : gm ((dc_vw h).2.2.1 1 7) ((dc_vw h).2.2.1 1 8) h := by
  obtain ⟨fs, hc, c7, c8⟩ := gm_cel
  obtain ⟨ws, r, hl, hv⟩ := gd_o hc hh
  have l7 : 7 < ws.length := by have := (List.getElem?_eq_some_iff.mp c7).1; omega
  have l8 : 8 < ws.length := by have := (List.getElem?_eq_some_iff.mp c8).1; omega
  have k7 : ws[7]? = some ws[7] := List.getElem?_eq_getElem l7
  have k8 : ws[8]? = some ws[8] := List.getElem?_eq_getElem l8
  obtain ⟨a, e7, -⟩ := hv 7 _ _ c7 k7
  obtain ⟨b, e8, -⟩ := hv 8 _ _ c8 k8
  have hr := (ab_rd_of r).2
  have v7 : (dc_vw h).2.2.1 1 7 = a := by
    show dc_vr (h.2.2 1) 7 = a
    rw [hr]
    unfold dc_vr
    dsimp only
    rw [k7, e7]
  have v8 : (dc_vw h).2.2.1 1 8 = b := by
    show dc_vr (h.2.2 1) 8 = b
    rw [hr]
    unfold dc_vr
    dsimp only
    rw [k8, e8]
  refine ⟨?_, ?_⟩
  · show sx_fd h (1 * 128 + 7) = _
    rw [sx_fd_o r (by decide), k7, e7, v7]
  · show sx_fd h (1 * 128 + 8) = _
    rw [sx_fd_o r (by decide), k8, e8, v8]
theorem gm_vr {a b : Nat} (hh : sx_h sx_SP z L xs h) (g : gm a b h) : (dc_vw h).2.2.1 1 7 = a ∧ (dc_vw h).2.2.1 1 8 = b := by
  have q := gm_of hh
  have e1 := Option.some.inj (q.1.symm.trans g.1)
  have e2 := Option.some.inj (q.2.symm.trans g.2)
  cases e1
  cases e2
  exact ⟨rfl, rfl⟩
/-! the two calls -/
theorem gd_run4 {K : sx_KK} {M : ab_M} {As : List Value} {β : Nat → Int} {Q : Option Value → dc_M → Prop} (hK : sx_holds sx_SP z L xs K) (hM : ab_G K.1 = some M) (hd : K.2.2.2.1 ≤ d) (hat : sx_at sx_SP z L xs K.2.1 β [] As h) (hn : pr_N h) (hq : ∀ N, dc_pv 4 N M 0 (lv_args 0 As) [] (dc_vw h) Q) : ab_go d M 0 (lv_args 0 As) [] h (fun r h' => sx_post sx_SP z L xs K β h r h' ∧ Q r (dc_vw h') ∧ dc_wf 4 h') := by
  have g := hK.2 M hM d hd β As h hat
  obtain ⟨n, r, h', hx, a, b⟩ := pa_go g (fun N => hq N d h (pr_wf4 hat.2.2.2.2.2.2 hn) rfl)
  exact ⟨n, r, h', hx, a, b.2, b.1⟩
/-- behind the class's call -/
def GJ (z L : Nat) (xs : Nat → Int32) (Rp : dc_M → dc_M → Prop) (F : dc_M → Int32 → dc_M → Prop) (v1 : Int32) (h1 : ab_H) : Prop := pr_N h1 ∧ ∃ h0, sx_h sx_SP z L xs h0 ∧ Rp (dc_vw h0) (dc_vw h1) ∧ F (dc_vw h0) v1 (dc_vw h1)
def GR (Rp : dc_M → dc_M → Prop) (h : ab_H) : Prop := Rp (dc_vw h) (dc_vw h) ∧ pr_N h
theorem gk1 {Rp : dc_M → dc_M → Prop} {F : dc_M → Int32 → dc_M → Prop} (sep : ∀ c m m', vs 82 120 m m' → Rp c m → Rp c m') (T : cs_T z L xs) {K : sx_KK} (hK : sx_mem sx_KT2 K) {M : ab_M} (hM : ab_G K.1 = some M) (hd : K.2.2.2.1 ≤ d) (hlo : K.2.2.1.all (fun x => decide (x / 128 < 82) || decide (120 ≤ x / 128)) = true) {As : List Value} {β : Nat → Int} (hat : sx_at sx_SP z L xs K.2.1 β [] As h) (R : GR Rp h) (hq : ∀ N, dc_pv 4 N M 0 (lv_args 0 As) [] (dc_vw h) (fun r m' => ∃ v, r = some (.int v) ∧ F (dc_vw h) v m')) : ab_go d M 0 (lv_args 0 As) [] h (fun r h1 => ∃ v1, r = some (.int v1) ∧ sx_h sx_SP z L xs h1 ∧ GJ z L xs Rp F v1 h1) := by
  have hh : sx_h sx_SP z L xs h := hat.2.2.2.2.2.2
  refine (gd_run4 (d := d) (T K hK) hM hd hat R.2 hq).imp (fun r h1 hp => ?_)
  obtain ⟨p, ⟨v, e, f⟩, wf⟩ := hp
  obtain ⟨hh1, hfr⟩ := nw_h p
  exact ⟨v, e, hh1, pr_of hh1 wf, h, hh, sep _ _ _ (fr_vs hfr hh hh1 (by decide) (by decide) hlo) R.1, f⟩
theorem gk2 {Rp : dc_M → dc_M → Prop} {F G : dc_M → Int32 → dc_M → Prop} {C : Int32 → Int32 → Prop} {v1 : Int32} (sepc : ∀ c c' m, vs 1 82 c c' → Rp c m → Rp c' m) (md : ∀ c m, Rp c m → cs_md (c.2.2.1 1 7) (c.2.2.1 1 8)) (T : cs_T z L xs) {K : sx_KK} (hK : sx_mem sx_KT2 K) {M : ab_M} (hM : ab_G K.1 = some M) (hd : K.2.2.2.1 ≤ d) (hlo : K.2.2.1.all (fun x => decide (x / 128 < 1) || decide (82 ≤ x / 128)) = true) {As : List Value} {β : Nat → Int} (hat : sx_at sx_SP z L xs K.2.1 β [] As h) (J : GJ z L xs Rp F v1 h) (hq : ∀ N, dc_pv 4 N M 0 (lv_args 0 As) [] (dc_vw h) (fun r m' => ∃ v, r = some (.int v) ∧ G (dc_vw h) v m')) (pure : ∀ h0 v2 m', sx_h sx_SP z L xs h0 → Rp (dc_vw h0) (dc_vw h) → F (dc_vw h0) v1 (dc_vw h) → G (dc_vw h) v2 m' → C v1 v2 ∧ Rp (dc_vw h) m') : ab_go d M 0 (lv_args 0 As) [] h (fun r h2 => ∃ v2, r = some (.int v2) ∧ sx_h sx_SP z L xs h2 ∧ ∃ a' b', cs_md a' b' ∧ gm a' b' h2 ∧ GR Rp h2 ∧ C v1 v2) := by
  have hh : sx_h sx_SP z L xs h := hat.2.2.2.2.2.2
  obtain ⟨hn, h0, hh0, R, f⟩ := J
  refine (gd_run4 (d := d) (T K hK) hM hd hat hn hq).imp (fun r h2 hp => ?_)
  obtain ⟨p, ⟨v, e, g⟩, wf⟩ := hp
  obtain ⟨hh2, hfr⟩ := nw_h p
  obtain ⟨c, R2⟩ := pure h0 v _ hh0 R f g
  have R3 := sepc _ _ _ (fr_vs hfr hh hh2 (by decide) (by decide) hlo) R2
  exact ⟨v, e, hh2, _, _, md _ _ R3, gm_of hh2, ⟨R3, pr_of hh2 wf⟩, c⟩
/-- the beginning of a contract with a long -/
theorem gl_at {c : Nat} {fs : List (Nat × sx_V)} (v : Int64) (hh : sx_h sx_SP z L xs h) (hf : ∀ q ∈ fs, ∃ w, sx_fd h q.1 = some w ∧ sx_v (fun _ => v.toInt) q.2 w) : sx_at sx_SP z L xs ([], [.inr (1, c), .inl (1, (0, [(1, 1)]))], fs, [], [(1, (-9223372036854775808), 9223372036854775807)], [], 2) (fun _ => v.toInt) [] [.ref c, .long v] h := by
  refine ⟨fun q hq => (by cases hq), ⟨rfl, ?_, trivial⟩, hf, fun q hq => (by cases hq), fun q hq => ?_, fun q hq => (by cases hq), hh⟩
  · show v.toInt = sx_ev (fun _ => v.toInt) (sx_Y 1)
    rw [sx_ev_Y]
  · rw [List.mem_singleton.mp hq]
    show -9223372036854775808 ≤ v.toInt ∧ v.toInt ≤ 9223372036854775807
    exact ⟨Int64.le_toInt _, by have := Int64.toInt_lt v; omega⟩
end FR
