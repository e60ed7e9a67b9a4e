/-! ===== the wider checker is sound: the heap ===== -/
section SX9
variable {SP : List sx_C} {z L : Nat} {xs : Nat → Int32} {Mo : List Nat} {β : Nat → Int} {A B : sx_S} {lv lv' : ab_L} {st st' : List Value} {h h' : ab_H} {l : List (Nat × sx_S)} {pc p n i nL nx : Nat}
theorem sx_lwl_ok {e : sx_E} {x : Int} {d : Int} {r : Option ab_S} (g : sx_ok SP z L xs A β lv st h) (hx : ∀ β', sx_ag (sx_nx A) β β' → x = sx_ev β' e) (hd : (pc, A) = (pc, A)) : ∀ {ps : List (Int × Int)} {y : List (Nat × sx_S)}, sx_lwl pc e A ps = some y → (∀ q ∈ y, q ∈ l) → (∀ y', sx_to1 pc d [A] = some y' → (∀ q ∈ y', q ∈ l) → Op.lookupswitch.offset ps d x = d → sx_to SP z L xs Mo (sx_nx A) β h l r) → (∃ y', sx_to1 pc d [A] = some y' ∧ ∀ q ∈ y', q ∈ l) → (0 ≤ (pc : Int) + Op.lookupswitch.offset ps d x → r = some (((pc : Int) + Op.lookupswitch.offset ps d x).toNat, lv, st, h)) → sx_to SP z L xs Mo (sx_nx A) β h l r := by
  intro ps
  induction ps with
  | nil =>
    intro y _ _ hk hy _
    obtain ⟨y', h1, h2⟩ := hy
    exact hk y' h1 h2 rfl
  | cons q0 qs ih =>
    intro y hs hsub hk hy hr
    unfold sx_lwl at hs
    obtain ⟨a, b, k1, k2, rfl⟩ := sx_jn_of hs
    obtain ⟨m, o⟩ := q0
    rw [Op.lookupswitch.offset_cons] at hr
    by_cases hm : m = x
    · rw [if_pos hm] at hr
      refine sx_side g (sx_sg.of (x := x - m) (fun β' ha => by rw [sx_ev_ak, ← hx β' ha]; omega)) k1 (fun β' ha => ?_) (fun q hq => hsub q (List.mem_append_left _ hq)) hr
      show sx_ev β' (sx_ak e _) = 0
      rw [sx_ev_ak, ← hx β' ha]
      omega
    · rw [if_neg hm] at hr
      refine ih k2 (fun q hq => hsub q (List.mem_append_right _ hq)) (fun y' h1 h2 h3 => hk y' h1 h2 (by rw [Op.lookupswitch.offset_cons, if_neg hm]; exact h3)) hy hr
theorem sx_z_lsw {d : Int} {ps : Array (Int × Int)} (g : sx_ok SP z L xs A β lv st h) (hs : sx_lsw d ps pc A = some l) : sx_to SP z L xs Mo (sx_nx A) β h l (ab_lsw d ps pc lv st h) := by
  unfold sx_lsw at hs
  split at hs
  · rename_i e r hst
    split at hs
    · rename_i hk
      obtain ⟨b, q, rfl, hb, h1⟩ := sx_pi (g.sts hst)
      obtain ⟨x, y, k1, k2, rfl⟩ := sx_jn_of hs
      have e0 : ab_lsw d ps pc lv (.int b :: q) h = ab_jp pc (Op.lookupswitch.offset ps.toList d b.toInt) lv q h := if_pos hk
      rw [e0]
      refine sx_lwl_ok (A := sx_k r A) (x := b.toInt) (d := d) (g.stk h1) hb rfl k1 (fun q hq => List.mem_append_left _ hq) (fun y' h2 h3 h4 => ?_) ⟨y, k2, fun q hq => List.mem_append_right _ hq⟩ (fun h0 => if_pos h0)
      rw [h4]
      obtain ⟨h0, rfl⟩ := sx_to1_of h2
      exact ⟨_, lv, q, h, sx_k r A, β, if_pos h0, h3 _ (List.mem_singleton.mpr rfl), Nat.le_refl _, sx_ag.rf, g.stk h1, sx_fr.rf⟩
    · cases hs
  · cases hs
theorem sx_cel_ok {a : Nat} {c : sx_C} (hc : sx_cel SP a = some c) (hh : sx_h SP z L xs h) : ab_rd h a = some (h.2.2 a) ∧ sx_c c (h.2.2 a) ∧ a ≠ 0 := by
  cases a with
  | zero => cases hc
  | succ k =>
    have hk : SP[k]? = some c := hc
    have hl : k < SP.length := (List.getElem?_eq_some_iff.mp hk).1
    refine ⟨?_, hh.2.2.2 k c hk, Nat.succ_ne_zero k⟩
    unfold ab_rd
    rw [if_pos (by rw [hh.1]; omega)]
theorem sx_h_wr {a : Nat} {c : sx_C} {e : ab_E} (hc : sx_cel SP a = some c) (he : sx_c c e) (hh : sx_h SP z L xs h) : sx_h SP z L xs (ab_wr h a e) := by
  have ha : a ≠ 0 := (sx_cel_ok hc hh).2.2
  refine ⟨hh.1, hh.2.1, ?_, fun k c' hk => ?_⟩
  · show va_up h.2.2 a e 0 = _
    rw [va_up_ne _ _ (fun q => ha q.symm)]
    exact hh.2.2.1
  · show sx_c c' (va_up h.2.2 a e (k + 1))
    by_cases q : k + 1 = a
    · subst q
      have hk2 : SP[k]? = some c := hc
      rw [hk] at hk2
      cases hk2
      rw [va_up_self]
      exact he
    · rw [va_up_ne _ _ q]
      exact hh.2.2.2 k c' hk
theorem sx_fd_wr {a k : Nat} {e : ab_E} (hk : k / 128 ≠ a) : sx_fd (ab_wr h a e) k = sx_fd h k := by
  unfold sx_fd
  rw [ab_rd_other hk]
theorem sx_el_wr {a : Nat} {e : ab_E} {q : Nat × sx_E × sx_V} (hk : q.1 ≠ a) : sx_el β q (ab_wr h a e) = sx_el β q h := by
  unfold sx_el
  rw [ab_rd_other hk]
theorem sx_ob_wr {a k : Nat} {e : ab_E} (hk : k / 128 ≠ a) : sx_ob (ab_wr h a e) k = sx_ob h k := by
  unfold sx_ob
  rw [sx_fd_wr hk, show (ab_wr h a e).2.2 (k / 128) = h.2.2 (k / 128) from va_up_ne _ _ hk]
/-- an object's cell -/
theorem sx_c_o {ci : Nat} {fs : List sx_F} {e : ab_E} (hc : sx_c (.inr (ci, fs)) e) : ∃ ws, e = .inr (ci, ws) ∧ fs.length = ws.length ∧ ∀ (k : Nat) (f : sx_F) (w : Value), fs[k]? = some f → ws[k]? = some w → sx_fv f w := by
  match e, hc with
  | .inr (cj, ws), hc =>
    obtain ⟨e1, h2, h3⟩ := hc
    subst e1
    exact ⟨ws, rfl, h2, h3⟩
theorem sx_fd_o {a k ci : Nat} {ws : List Value} (hr : ab_rd h a = some (.inr (ci, ws))) (hk : k < 128) : sx_fd h (a * 128 + k) = ws[k]? := by
  unfold sx_fd
  rw [show (a * 128 + k) / 128 = a by omega, show (a * 128 + k) % 128 = k by omega, hr]
theorem sx_at.fld {key : Nat} {v : sx_V} {w : Value} (g : sx_at SP z L xs A β lv st h) (hf : sx_fd h key = some w) (hv : sx_v β v w) : sx_at SP z L xs (sx_wf A ((key, v) :: A.2.2.1)) β lv st h := by
  refine ⟨g.1, g.2.1, fun q hq => ?_, g.2.2.2⟩
  rcases List.mem_cons.mp hq with rfl | hq
  · exact ⟨w, hf, hv⟩
  · exact g.2.2.1 q hq
theorem sx_ok.fk {key : Nat} {v : sx_V} (g : sx_ok SP z L xs A β lv st h) (hv : sx_lk key A.2.2.1 = some v) : ∃ w, sx_fd h key = some w ∧ ∀ β', sx_ag (sx_nx A) β β' → sx_v β' v w := by
  obtain ⟨w, hw, -⟩ := g.at.2.2.1 _ (sx_lk_mem hv)
  refine ⟨w, hw, fun β' ha => ?_⟩
  obtain ⟨w', hw', hv'⟩ := (g β' ha).2.2.1 _ (sx_lk_mem hv)
  have e : w = w' := Option.some.inj (hw.symm.trans hw')
  rw [e]
  exact hv'
theorem sx_z_get {ci k : Nat} (g : sx_ok SP z L xs A β lv st h) (hs : sx_get SP ci k pc A = some l) : sx_to SP z L xs Mo (sx_nx A) β h l (ab_get ci k pc lv st h) := by
  unfold sx_get at hs
  split at hs
  · rename_i a r hst
    split at hs
    · rename_i cj fs hcel
      split at hs
      · rename_i hk
        split at hs
        · rename_i f hf
          obtain ⟨q, rfl, h1⟩ := sx_pr (g.sts hst)
          obtain ⟨r1, r2, r3⟩ := sx_cel_ok hcel g.at.2.2.2.2.2.2
          obtain ⟨ws, ew, hlen, hfv⟩ := sx_c_o r2
          rw [ew] at r1
          have hkl : k < ws.length := by rw [← hlen]; exact (List.getElem?_eq_some_iff.mp hf).1
          have hw : ws[k]? = some ws[k] := List.getElem?_eq_getElem hkl
          generalize ws[k] = w at hw
          have hfd : sx_fd h (a * 128 + k) = some w := by rw [sx_fd_o r1 (by omega)]; exact hw
          have hm : ab_get ci k pc lv (.ref a :: q) h = some (pc + 3, lv, w :: q, h) := by
            unfold ab_get
            simp only [r1]
            rw [if_pos hk.1, hw]
          have hfw := hfv k f w hf hw
          have gg := g.stk h1
          split at hs
          · rename_i v hv
            cases hs
            obtain ⟨w', hw', hv'⟩ := g.fk hv
            have e : w = w' := Option.some.inj (hfd.symm.trans hw')
            subst e
            exact sx_to.one hm rfl rfl (gg.pu hv')
          · split at hs
            · rename_i h0
              cases hs
              unfold sx_fv at hfw
              rw [h0] at hfw
              obtain ⟨x, rfl, b1, b2⟩ := hfw
              refine ⟨_, _, _, h, _, _, hm, List.mem_singleton.mpr rfl, ?_, sx_bu_ag, gg.nw x.toInt ?_ (fun β' g' hv' => ?_), sx_fr.rf⟩
              · exact Nat.le_succ _
              · rfl
              · have hv0 : sx_v β' (.inl (0, sx_Y (sx_nx A))) (.int x) := by
                  show x.toInt = _
                  rw [sx_ev_Y]
                  exact hv'.symm
                exact ((g'.new (a := f.2.1) (b := f.2.2.1) (by rw [hv']; exact b1) (by rw [hv']; exact b2)).fld hfd hv0).push hv0
            · rename_i h0
              cases hs
              unfold sx_fv at hfw
              rw [h0] at hfw
              obtain ⟨x, rfl⟩ := hfw
              have b1 := x.le_toInt
              have b2 := x.toInt_lt
              refine ⟨_, _, _, h, _, _, hm, List.mem_singleton.mpr rfl, ?_, sx_bu_ag, gg.nw x.toInt ?_ (fun β' g' hv' => ?_), sx_fr.rf⟩
              · exact Nat.le_succ _
              · rfl
              · have hv0 : sx_v β' (.inl (1, sx_Y (sx_nx A))) (.long x) := by
                  show x.toInt = _
                  rw [sx_ev_Y]
                  exact hv'.symm
                exact ((g'.new (a := -9223372036854775808) (b := 9223372036854775807) (by rw [hv']; omega) (by rw [hv']; omega)).fld hfd hv0).push hv0
            · rename_i h0
              unfold sx_fv at hfw
              rw [h0] at hfw
              obtain ⟨b, rfl, hb⟩ := hfw
              split at hs
              · rename_i b' hcs
                cases hs
                rw [hcs, List.mem_singleton] at hb
                subst hb
                exact sx_to.one hm rfl rfl (gg.pu (fun β' _ => rfl))
              · cases hs
                exact ⟨_, _, _, h, _, β, hm, List.mem_map.mpr ⟨b, hb, rfl⟩, Nat.le_refl _, sx_ag.rf, fun β' ha => ((gg β' ha).fld hfd (v := .inr (1, b)) rfl).push (v := .inr (1, b)) rfl, sx_fr.rf⟩
            · cases hs
        · cases hs
      · cases hs
    · cases hs
  · cases hs
/-- a field is written -/
theorem sx_put_go {a k ci : Nat} {fs : List sx_F} {ws : List Value} {f : sx_F} {v : sx_V} {w : Value} {r : List sx_V} {q : List Value} (hcel : sx_cel SP a = some (.inr (ci, fs))) (hk : k < 125) (hMo : Mo.contains (a * 128 + k) = true) (hf : fs[k]? = some f) (hr : ab_rd h a = some (.inr (ci, ws))) (hfw : sx_fv f w) (g : sx_ok SP z L xs A β lv st h) (hq : ∀ β', sx_ag (sx_nx A) β β' → sx_st β' r q) (hv : ∀ β', sx_ag (sx_nx A) β β' → sx_v β' v w) (hfit : ab_fit (ab_ty ci k) w = true) :
    ab_put ci k pc lv (w :: .ref a :: q) h = some (pc + 3, lv, q, ab_wr h a (.inr (ci, ws.set k w))) ∧ sx_ok SP z L xs (sx_wf (sx_k r A) (sx_put1 (a * 128 + k) v A.2.2.1)) β lv q (ab_wr h a (.inr (ci, ws.set k w))) ∧ sx_fr Mo h (ab_wr h a (.inr (ci, ws.set k w))) := by
  obtain ⟨r1, r2, r3⟩ := sx_cel_ok hcel g.at.2.2.2.2.2.2
  have e0 : h.2.2 a = .inr (ci, ws) := Option.some.inj (r1.symm.trans hr)
  rw [e0] at r2
  obtain ⟨ws', ew, hlen, hfv⟩ := sx_c_o r2
  cases ew
  have hkl : k < ws.length := by rw [← hlen]; exact (List.getElem?_eq_some_iff.mp hf).1
  have hsp : sx_c (.inr (ci, fs)) (.inr (ci, ws.set k w)) := by
    refine ⟨rfl, by rw [List.length_set]; exact hlen, fun j f' w' hf' hw' => ?_⟩
    by_cases e : k = j
    · subst e
      rw [hf] at hf'
      cases hf'
      rw [List.getElem?_set_self hkl] at hw'
      cases hw'
      exact hfw
    · rw [List.getElem?_set_ne e] at hw'
      exact hfv j f' w' hf' hw'
  have hself : ab_rd (ab_wr h a (.inr (ci, ws.set k w))) a = some (.inr (ci, ws.set k w)) := ab_rd_self (ab_rd_of hr).1
  have hfd : ∀ key, key ≠ a * 128 + k → sx_fd (ab_wr h a (.inr (ci, ws.set k w))) key = sx_fd h key := fun key hne => by
    by_cases e : key / 128 = a
    · unfold sx_fd
      rw [e, hr, hself]
      exact List.getElem?_set_ne (fun q => hne (by omega))
    · exact sx_fd_wr e
  refine ⟨?_, fun β' ha => ?_, fun key hkey => ?_⟩
  · unfold ab_put
    simp only [hr]
    rw [if_pos ⟨trivial, hkl, hfit⟩]
  · have g' := g β' ha
    refine ⟨g'.1, hq β' ha, fun u hu => ?_, fun u hu => ?_, g'.2.2.2.2.1, g'.2.2.2.2.2.1, sx_h_wr hcel hsp g'.2.2.2.2.2.2⟩
    · rcases List.mem_cons.mp hu with rfl | hu
      · refine ⟨w, ?_, hv β' ha⟩
        rw [sx_fd_o hself (by omega)]
        exact List.getElem?_set_self hkl
      · obtain ⟨hm, hp⟩ := List.mem_filter.mp hu
        obtain ⟨w', hw', hv'⟩ := g'.2.2.1 u hm
        refine ⟨w', ?_, hv'⟩
        rw [hfd u.1 (by simpa using hp)]
        exact hw'
    · have hel := g'.2.2.2.1 u hu
      by_cases e : u.1 = a
      · unfold sx_el at hel
        rw [e, hr] at hel
        exact hel.elim
      · rw [sx_el_wr e]
        exact hel
  · have hne : key ≠ a * 128 + k := fun e => by rw [e, hMo] at hkey; cases hkey
    unfold sx_ob
    rw [hfd key hne]
    by_cases e : key / 128 = a
    · rw [e, e0, show (ab_wr h a (.inr (ci, ws.set k w))).2.2 a = .inr (ci, ws.set k w) from va_up_self _ _ _]
    · rw [show (ab_wr h a (.inr (ci, ws.set k w))).2.2 (key / 128) = h.2.2 (key / 128) from va_up_ne _ _ e]
theorem sx_fitb {x : Int32} (h1 : 0 ≤ x.toInt) (h2 : x.toInt ≤ 1) : x = 0 ∨ x = 1 := by
  rcases (show x.toInt = 0 ∨ x.toInt = 1 by omega) with e | e
  · exact Or.inl (Int32.toInt_inj.mp e)
  · exact Or.inr (Int32.toInt_inj.mp e)
theorem sx_fit_ok {ty : FieldType} {e : sx_E} {x : Int32} (g : sx_at SP z L xs A β lv st h) (hx : x.toInt = sx_ev β e) (hf : sx_fit A ty e = true) : ab_fit ty (.int x) = true := by
  unfold sx_fit at hf
  split at hf
  · unfold ab_fit
    rw [Bool.and_eq_true, decide_eq_true_eq]
    exact ⟨rfl, rfl⟩
  · have hb := sx_in_ok g.nf hf
    rw [← hx] at hb
    rcases sx_fitb hb.1 hb.2 with e | e <;> subst e <;> decide
  · cases hf
theorem sx_z_put {ci k : Nat} (g : sx_ok SP z L xs A β lv st h) (hs : sx_put SP Mo ci k pc A = some l) : sx_to SP z L xs Mo (sx_nx A) β h l (ab_put ci k pc lv st h) := by
  unfold sx_put at hs
  split at hs
  · rename_i v a r hst
    split at hs
    · rename_i cj fs hcel
      split at hs
      · rename_i hk
        obtain ⟨hc, hk, hMo⟩ := hk
        subst hc
        split at hs
        · rename_i f hf
          obtain ⟨w, q1, rfl, hw, h1⟩ := sx_pv (g.sts hst)
          obtain ⟨q, rfl, h2⟩ := sx_pr h1
          obtain ⟨r1, r2, r3⟩ := sx_cel_ok hcel g.at.2.2.2.2.2.2
          obtain ⟨ws, ew, hlen, hfv⟩ := sx_c_o r2
          rw [ew] at r1
          have fin : ∀ (hfw : sx_fv f w) (hfit : ab_fit (ab_ty cj k) w = true), l = [(pc + 3, sx_wf (sx_k r A) (sx_put1 (a * 128 + k) v A.2.2.1))] → sx_to SP z L xs Mo (sx_nx A) β h l (ab_put cj k pc lv (w :: .ref a :: q) h) := fun hfw hfit hl => by
            obtain ⟨m1, m2, m3⟩ := sx_put_go (pc := pc) hcel hk hMo hf r1 hfw g h2 hw hfit
            exact ⟨_, _, _, _, sx_wf (sx_k r A) (sx_put1 (a * 128 + k) v A.2.2.1), β, m1, by rw [hl]; exact List.mem_singleton.mpr rfl, Nat.le_refl (sx_nx A), sx_ag.rf, m2, m3⟩
          have w0 := hw β sx_ag.rf
          split at hs
          · rename_i e h0
            split at hs
            · rename_i hc
              cases hs
              cases w with
              | int x =>
                have hx : x.toInt = sx_ev β e := w0
                have hb := sx_in_ok g.at.nf hc.1
                rw [← hx] at hb
                refine fin ?_ (sx_fit_ok g.at hx hc.2) rfl
                unfold sx_fv
                rw [h0]
                exact ⟨x, rfl, hb.1, hb.2⟩
              | _ => exact w0.elim
            · cases hs
          · rename_i e h0
            split at hs
            · rename_i hc
              cases hs
              cases w with
              | long x =>
                refine fin ?_ (by rw [hc]; unfold ab_fit; rw [Bool.and_eq_true, decide_eq_true_eq]; exact ⟨rfl, rfl⟩) rfl
                unfold sx_fv
                rw [h0]
                exact ⟨x, rfl⟩
              | _ => exact w0.elim
            · cases hs
          · rename_i b h0
            split at hs
            · rename_i hc
              cases hs
              cases w with
              | ref x =>
                have hx : b = x := w0
                subst hx
                refine fin ?_ hc.2 rfl
                unfold sx_fv
                rw [h0]
                exact ⟨b, rfl, List.contains_iff_mem.mp hc.1⟩
              | _ => exact w0.elim
            · cases hs
          · rename_i b h0
            split at hs
            · rename_i hc
              cases hs
              cases w with
              | ref x =>
                have hx : b = x := w0
                subst hx
                refine fin ?_ hc rfl
                unfold sx_fv
                rw [h0]
                trivial
              | _ => exact w0.elim
            · cases hs
          · cases hs
        · cases hs
      · cases hs
    · cases hs
  · cases hs
end SX9
