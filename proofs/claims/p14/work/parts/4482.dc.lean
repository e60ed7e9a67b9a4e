/-! ===== the pure machine is right, on ===== -/
def dc_P (F : ab_L → ab_H → Option ab_S) : Prop := ∀ lv h s, F lv h = some s → s.2.1 = lv ∧ s.2.2.2 = h ∧ ∀ lv' h', F lv' h' = some (s.1, lv', s.2.2.1, h')
theorem dc_P_k {n pc : Nat} {v : Value} {st : List Value} : dc_P (fun lv h => ab_k n pc v lv st h) := fun lv h s e => by
  cases e
  exact ⟨rfl, rfl, fun _ _ => rfl⟩
theorem dc_P_b1 {f : Int32 → Int32} {pc : Nat} {st : List Value} : dc_P (fun lv h => ab_b1 f pc lv st h) := fun lv h s e => by
  dsimp only at e
  unfold ab_b1 at e
  split at e
  · cases e; exact ⟨rfl, rfl, fun _ _ => rfl⟩
  · cases e
theorem dc_P_b2 {f : Int32 → Int32 → Int32} {pc : Nat} {st : List Value} : dc_P (fun lv h => ab_b2 f pc lv st h) := fun lv h s e => by
  dsimp only at e
  unfold ab_b2 at e
  split at e
  · cases e; exact ⟨rfl, rfl, fun _ _ => rfl⟩
  · cases e
theorem dc_P_l2 {f : Int64 → Int64 → Int64} {pc : Nat} {st : List Value} : dc_P (fun lv h => ab_l2 f pc lv st h) := fun lv h s e => by
  dsimp only at e
  unfold ab_l2 at e
  split at e
  · cases e; exact ⟨rfl, rfl, fun _ _ => rfl⟩
  · cases e
theorem dc_P_lc {pc : Nat} {st : List Value} : dc_P (fun lv h => ab_lc pc lv st h) := fun lv h s e => by
  dsimp only at e
  unfold ab_lc at e
  split at e
  · cases e; exact ⟨rfl, rfl, fun _ _ => rfl⟩
  · cases e
theorem dc_P_ls {f : Int64 → Int32 → Int64} {pc : Nat} {st : List Value} : dc_P (fun lv h => ab_ls f pc lv st h) := fun lv h s e => by
  dsimp only at e
  unfold ab_ls at e
  split at e
  · cases e; exact ⟨rfl, rfl, fun _ _ => rfl⟩
  · cases e
theorem dc_P_il {pc : Nat} {st : List Value} : dc_P (fun lv h => ab_il pc lv st h) := fun lv h s e => by
  dsimp only at e
  unfold ab_il at e
  split at e
  · cases e; exact ⟨rfl, rfl, fun _ _ => rfl⟩
  · cases e
theorem dc_P_li {pc : Nat} {st : List Value} : dc_P (fun lv h => ab_li pc lv st h) := fun lv h s e => by
  dsimp only at e
  unfold ab_li at e
  split at e
  · cases e; exact ⟨rfl, rfl, fun _ _ => rfl⟩
  · cases e
theorem dc_P_dup {pc : Nat} {st : List Value} : dc_P (fun lv h => ab_dup pc lv st h) := fun lv h s e => by
  dsimp only at e
  unfold ab_dup at e
  split at e
  · split at e
    · rename_i q
      cases e
      exact ⟨rfl, rfl, fun _ _ => by unfold ab_dup; dsimp only; rw [if_pos q]⟩
    · cases e
  · cases e
theorem dc_P_pop {pc : Nat} {st : List Value} : dc_P (fun lv h => ab_pop pc lv st h) := fun lv h s e => by
  dsimp only at e
  unfold ab_pop at e
  split at e
  · split at e
    · rename_i q
      cases e
      exact ⟨rfl, rfl, fun _ _ => by unfold ab_pop; dsimp only; rw [if_pos q]⟩
    · cases e
  · cases e
theorem dc_P_dx1 {pc : Nat} {st : List Value} : dc_P (fun lv h => ab_dx1 pc lv st h) := fun lv h s e => by
  dsimp only at e
  unfold ab_dx1 at e
  split at e
  · split at e
    · rename_i q
      cases e
      exact ⟨rfl, rfl, fun _ _ => by unfold ab_dx1; dsimp only; rw [if_pos q]⟩
    · cases e
  · cases e
theorem dc_P_d2 {pc : Nat} {st : List Value} : dc_P (fun lv h => ab_d2 pc lv st h) := fun lv h s e => by
  dsimp only at e
  unfold ab_d2 at e
  split at e
  · split at e
    · rename_i q
      cases e
      exact ⟨rfl, rfl, fun _ _ => by unfold ab_d2; dsimp only; rw [if_pos q]⟩
    · cases e
  · cases e
theorem dc_P_jp {pc : Nat} {off : Int} {st : List Value} : dc_P (fun lv h => ab_jp pc off lv st h) := fun lv h s e => by
  dsimp only at e
  unfold ab_jp at e
  split at e
  · rename_i q
    cases e
    exact ⟨rfl, rfl, fun _ _ => by unfold ab_jp; dsimp only; rw [if_pos q]⟩
  · cases e
theorem dc_P_gs {g pc : Nat} {st : List Value} : dc_P (fun lv h => ab_gs g pc lv st h) := fun lv h s e => by
  dsimp only at e
  unfold ab_gs at e
  split at e
  · cases e; exact ⟨rfl, rfl, fun _ _ => rfl⟩
  · cases e; exact ⟨rfl, rfl, fun _ _ => rfl⟩
  · cases e; exact ⟨rfl, rfl, fun _ _ => rfl⟩
  · cases e
theorem dc_P_lds {g pc : Nat} {st : List Value} : dc_P (fun lv h => ab_lds g pc lv st h) := fun lv h s e => by
  dsimp only at e
  unfold ab_lds at e
  split at e
  · rename_i q
    cases e
    exact ⟨rfl, rfl, fun _ _ => by unfold ab_lds; dsimp only; rw [if_pos q]⟩
  · cases e
theorem dc_P_ldc {nL pc : Nat} {it : ab_I} {i : Nat} {st : List Value} (hi : it.1 = .ldc i) : dc_P (fun lv h => ab_sp nL it pc lv st h) := by
  simp only [ab_sp, hi]
  by_cases q : it.2.2.1 = 7
  · simp only [if_pos q]
    exact dc_P_lds
  · simp only [if_neg q]
    exact dc_P_k
theorem dc_plain {nL pc : Nat} {it : ab_I} {st : List Value} (hp : dc_isp it.1 = true) : dc_P (fun lv h => ab_sp nL it pc lv st h) := by
  unfold dc_isp at hp
  split at hp
  all_goals first
    | (cases hp; done)
    | (rename_i hi; exact dc_P_ldc hi)
    | (rename_i hi; simp only [ab_sp, hi]; first
      | exact dc_P_k
      | exact dc_P_b2
      | exact dc_P_b1
      | exact dc_P_l2
      | exact dc_P_ls
      | exact dc_P_lc
      | exact dc_P_il
      | exact dc_P_li
      | exact dc_P_dup
      | exact dc_P_pop
      | exact dc_P_dx1
      | exact dc_P_d2
      | exact dc_P_jp
      | exact dc_P_gs)
theorem dc_isp_kd {it : ab_I} (hp : dc_isp it.1 = true) : ab_kd it = 0 := by
  unfold dc_isp at hp
  split at hp
  all_goals first
    | (cases hp; done)
    | (rename_i hi; unfold ab_kd; rw [hi])
section DC
variable {u N : Nat} {M : ab_M} {pc pc' : Nat} {lv L : ab_L} {st : List Value} {m : dc_M} {Q : Option Value → dc_M → Prop} {it : ab_I} {k : dc_K}
theorem dc_plk (h1 : ab_at M.2.2.2.2.2 pc = some it) (hk : dc_kk u N M Q k) (hs : dc_sub L lv) (hx : dc_lf u N M Q (dc_pl M.2.2.1 it pc L st m k)) : dc_pv u (N + 1) M pc lv st m Q := by
  unfold dc_pl at hx
  split at hx
  · rename_i hp
    refine dc_st h1 (dc_isp_kd hp) (fun h s wf hv e => ?_)
    obtain ⟨q1, q2, q3⟩ := dc_plain hp lv h s e
    have q3 := q3 [] dc_h0
    dsimp only at q3
    rw [q3] at hx
    rw [q1, q2, hv]
    exact ⟨wf, hk _ _ _ _ _ hs hx⟩
  · exact (dc_kz_no hx).elim
theorem dc_we_of {h : ab_H} {a : Nat} {e : ab_E} (wf : dc_wf u h) (hr : ab_rd h a = some e) : dc_we u a e := by
  obtain ⟨h1, h2⟩ := ab_rd_of hr
  rw [← h2]
  exact wf a h1
theorem dc_v1 {h : ab_H} {a i : Nat} {e : ab_E} (hr : ab_rd h a = some e) : (dc_vw h).1 a i = dc_vi e i := by
  rw [← (ab_rd_of hr).2]; rfl
theorem dc_v2 {h : ab_H} {a i : Nat} {e : ab_E} (hr : ab_rd h a = some e) : (dc_vw h).2.1 a i = dc_vl e i := by
  rw [← (ab_rd_of hr).2]; rfl
theorem dc_v3 {h : ab_H} {a i : Nat} {e : ab_E} (hr : ab_rd h a = some e) : (dc_vw h).2.2.1 a i = dc_vr e i := by
  rw [← (ab_rd_of hr).2]; rfl
theorem dc_v4 {h : ab_H} {a : Nat} {e : ab_E} (hr : ab_rd h a = some e) : (dc_vw h).2.2.2 a = dc_vt e := by
  rw [← (ab_rd_of hr).2]; rfl
theorem dc_getk {i : Nat} (h1 : ab_at M.2.2.2.2.2 pc = some it) (hi : it.1 = .getfield i) (hk : dc_kk u N M Q k) (hs : dc_sub L lv) (hx : dc_lf u N M Q (dc_get u it.2.2.1 it.2.2.2.1 pc L st m k)) : dc_pv u (N + 1) M pc lv st m Q := dc_st h1 (by unfold ab_kd; rw [hi]) (fun h s wf hv e => by
  simp only [ab_sp, hi] at e
  unfold dc_get at hx
  split at hx
  · rename_i a r
    split at hx
    · exact (dc_kz_no hx).elim
    rename_i h20
    rw [if_neg h20] at e
    unfold ab_get at e
    dsimp only at e
    split at e
    · rename_i cj fs hr
      split at e
      · rename_i hc
        subst hc
        split at e
        · rename_i v hfv
          cases e
          refine ⟨wf, ?_⟩
          rw [hv]
          have w := dc_we_of wf hr
          have w := w.2 _ _ hfv
          split at hx
          · rename_i o hq
            rw [hq] at w
            obtain ⟨x, rfl⟩ := w
            have e1 : m.1 a it.2.2.2.1 = x := by
              rw [← hv, dc_v1 hr]
              unfold dc_vi
              dsimp only
              rw [hfv]
            rw [e1] at hx
            exact hk _ _ _ _ _ hs hx
          · rename_i o hq
            rw [hq] at w
            obtain ⟨x, rfl⟩ := w
            have e1 : m.2.1 a it.2.2.2.1 = x := by
              rw [← hv, dc_v2 hr]
              unfold dc_vl
              dsimp only
              rw [hfv]
            rw [e1] at hx
            exact hk _ _ _ _ _ hs hx
          · rename_i o hq
            rw [hq] at w
            have w : v = .ref (a + o) := w
            subst w
            exact hk _ _ _ _ _ hs hx
          · rename_i o hq
            rw [hq] at w
            obtain ⟨x, rfl⟩ := w
            have e1 : m.2.2.1 a it.2.2.2.1 = x := by
              rw [← hv, dc_v3 hr]
              unfold dc_vr
              dsimp only
              rw [hfv]
            rw [e1] at hx
            exact hk _ _ _ _ _ hs hx
          · exact (dc_kz_no hx).elim
        · cases e
      · cases e
    · cases e
  · rename_i q r
    split at hx
    · rename_i h20
      rw [if_pos h20] at e
      unfold ab_gx at e
      dsimp only at e
      split at e
      · split at hx
        · rename_i hf
          rw [if_pos hf] at e
          cases e
          exact ⟨wf, by rw [hv]; exact hk _ _ _ _ _ hs hx⟩
        · rename_i hf
          rw [if_neg hf] at e
          cases e
          exact ⟨wf, by rw [hv]; exact hk _ _ _ _ _ hs hx⟩
      · cases e
    · exact (dc_kz_no hx).elim
  · exact (dc_kz_no hx).elim)
/-! writes -/
theorem dc_vw_wr {h : ab_H} {a : Nat} {e : ab_E} : dc_vw (ab_wr h a e) = (fun b j => if b = a then dc_vi e j else (dc_vw h).1 b j, fun b j => if b = a then dc_vl e j else (dc_vw h).2.1 b j, fun b j => if b = a then dc_vr e j else (dc_vw h).2.2.1 b j, fun b => if b = a then dc_vt e else (dc_vw h).2.2.2 b) := by
  have key : ∀ b, (ab_wr h a e).2.2 b = if b = a then e else h.2.2 b := fun b => rfl
  refine Prod.ext ?_ (Prod.ext ?_ (Prod.ext ?_ ?_))
  · funext b j
    show dc_vi ((ab_wr h a e).2.2 b) j = if b = a then dc_vi e j else dc_vi (h.2.2 b) j
    rw [key]
    split <;> rfl
  · funext b j
    show dc_vl ((ab_wr h a e).2.2 b) j = if b = a then dc_vl e j else dc_vl (h.2.2 b) j
    rw [key]
    split <;> rfl
  · funext b j
    show dc_vr ((ab_wr h a e).2.2 b) j = if b = a then dc_vr e j else dc_vr (h.2.2 b) j
    rw [key]
    split <;> rfl
  · funext b
    show dc_vt ((ab_wr h a e).2.2 b) = if b = a then dc_vt e else dc_vt (h.2.2 b)
    rw [key]
    split <;> rfl
theorem dc_wf_wr {h : ab_H} {a : Nat} {e : ab_E} (wf : dc_wf u h) (he : dc_we u a e) : dc_wf u (ab_wr h a e) := fun b hb => by
  show dc_we u b (va_up h.2.2 a e b)
  unfold va_up
  by_cases q : b = a
  · rw [if_pos q, q]; exact he
  · rw [if_neg q]; exact wf b hb
theorem dc_same1 {h : ab_H} {a : Nat} {g : Nat → Int32} (hg : ∀ j, g j = (dc_vw h).1 a j) : (fun b j => if b = a then g j else (dc_vw h).1 b j) = (dc_vw h).1 := by
  funext b j
  split
  · rename_i q; rw [q]; exact hg j
  · rfl
theorem dc_same2 {h : ab_H} {a : Nat} {g : Nat → Int64} (hg : ∀ j, g j = (dc_vw h).2.1 a j) : (fun b j => if b = a then g j else (dc_vw h).2.1 b j) = (dc_vw h).2.1 := by
  funext b j
  split
  · rename_i q; rw [q]; exact hg j
  · rfl
theorem dc_same3 {h : ab_H} {a : Nat} {g : Nat → Nat} (hg : ∀ j, g j = (dc_vw h).2.2.1 a j) : (fun b j => if b = a then g j else (dc_vw h).2.2.1 b j) = (dc_vw h).2.2.1 := by
  funext b j
  split
  · rename_i q; rw [q]; exact hg j
  · rfl
theorem dc_same4 {h : ab_H} {a : Nat} {g : Nat × Nat} (hg : g = (dc_vw h).2.2.2 a) : (fun b => if b = a then g else (dc_vw h).2.2.2 b) = (dc_vw h).2.2.2 := by
  funext b
  split
  · rename_i q; rw [q]; exact hg
  · rfl
theorem dc_set1 {α : Type} {h : Nat → Nat → α} {a i : Nat} {g : Nat → α} {x : α} (h1 : g i = x) (h2 : ∀ j, j ≠ i → g j = h a j) : (fun b j => if b = a then g j else h b j) = (fun b j => if b = a ∧ j = i then x else h b j) := by
  funext b j
  by_cases q : b = a
  · by_cases q2 : j = i
    · rw [if_pos q, if_pos ⟨q, q2⟩, q2, h1]
    · rw [if_pos q, if_neg (fun z => q2 z.2), h2 j q2, q]
  · rw [if_neg q, if_neg (fun z => q z.1)]
theorem dc_vw_i {h : ab_H} {a n t i : Nat} {f : Nat → Int32} {x : Int32} (hr : ab_rd h a = some (.inl (t, n, .inl f))) : dc_vw (ab_wr h a (.inl (t, n, .inl (upd f i x)))) = dc_wi (dc_vw h) a i x := by
  rw [dc_vw_wr]
  unfold dc_wi
  refine Prod.ext ?_ (Prod.ext ?_ (Prod.ext ?_ ?_))
  · exact dc_set1 (show upd f i x i = x by unfold upd; rw [if_pos rfl]) (fun j hj => by rw [dc_v1 hr]; show upd f i x j = f j; unfold upd; rw [if_neg hj])
  · exact dc_same2 (fun j => by rw [dc_v2 hr]; rfl)
  · exact dc_same3 (fun j => by rw [dc_v3 hr]; rfl)
  · exact dc_same4 (by rw [dc_v4 hr]; rfl)
theorem dc_vw_l {h : ab_H} {a n t i : Nat} {f : Nat → Int64} {x : Int64} (hr : ab_rd h a = some (.inl (t, n, .inr (.inl f)))) : dc_vw (ab_wr h a (.inl (t, n, .inr (.inl (vp_updL f i x))))) = dc_wl (dc_vw h) a i x := by
  rw [dc_vw_wr]
  unfold dc_wl
  refine Prod.ext ?_ (Prod.ext ?_ (Prod.ext ?_ ?_))
  · exact dc_same1 (fun j => by rw [dc_v1 hr]; rfl)
  · exact dc_set1 (show vp_updL f i x i = x by unfold vp_updL; rw [if_pos rfl]) (fun j hj => by rw [dc_v2 hr]; show vp_updL f i x j = f j; unfold vp_updL; rw [if_neg hj])
  · exact dc_same3 (fun j => by rw [dc_v3 hr]; rfl)
  · exact dc_same4 (by rw [dc_v4 hr]; rfl)
theorem dc_vw_cp {h : ab_H} {a n t a0 n0 t0 : Nat} {f g : Nat → Int32} {sp dp c : Nat} (hr : ab_rd h a = some (.inl (t, n, .inl g))) (hr0 : ab_rd h a0 = some (.inl (t0, n0, .inl f))) : dc_vw (ab_wr h a (.inl (t, n, .inl (va_cpy f g sp dp c)))) = dc_cp (dc_vw h) a0 sp a dp c := by
  rw [dc_vw_wr]
  unfold dc_cp
  refine Prod.ext ?_ (Prod.ext ?_ (Prod.ext ?_ ?_))
  · funext b j
    dsimp only
    split
    · show va_cpy f g sp dp c j = _
      rw [show (dc_vw h).1 a0 = f from funext (fun j => by rw [dc_v1 hr0]; rfl), show (dc_vw h).1 a = g from funext (fun j => by rw [dc_v1 hr]; rfl)]
    · rfl
  · exact dc_same2 (fun j => by rw [dc_v2 hr]; rfl)
  · exact dc_same3 (fun j => by rw [dc_v3 hr]; rfl)
  · exact dc_same4 (by rw [dc_v4 hr]; rfl)
theorem dc_gs {ws : List Value} {i j : Nat} {v : Value} (hi : i < ws.length) : (ws.set i v)[j]? = if j = i then some v else ws[j]? := by
  by_cases q : j = i
  · rw [if_pos q, q, List.getElem?_set_self hi]
  · rw [if_neg q, List.getElem?_set_ne (fun z => q z.symm)]
theorem dc_we_put {a ci f : Nat} {ws : List Value} {v : Value} (hi : f < ws.length) (w : dc_we u a (.inr (ci, ws))) (hv : dc_fo (dc_fk u ci f) a v) : dc_we u a (.inr (ci, ws.set f v)) := ⟨w.1, fun j v' hj => by
  have hj : (ws.set f v)[j]? = some v' := hj
  rw [dc_gs hi] at hj
  split at hj
  · rename_i q
    cases hj
    rw [q]
    exact hv
  · exact w.2 j v' hj⟩
theorem dc_putk {i : Nat} (h1 : ab_at M.2.2.2.2.2 pc = some it) (hi : it.1 = .putfield i) (hk : dc_kk u N M Q k) (hs : dc_sub L lv) (hx : dc_lf u N M Q (dc_put u it.2.2.1 it.2.2.2.1 pc L st m k)) : dc_pv u (N + 1) M pc lv st m Q := dc_st h1 (by unfold ab_kd; rw [hi]) (fun h s wf hv e => by
  simp only [ab_sp, hi] at e
  unfold ab_put at e
  split at e
  · rename_i v a r
    split at e
    · rename_i cj fs hr
      split at e
      · rename_i hc
        obtain ⟨hc, hl, hf⟩ := hc
        subst hc
        cases e
        have w := dc_we_of wf hr
        have hle : it.2.2.2.1 < fs.length := hl
        obtain ⟨old, hold⟩ : ∃ old, fs[it.2.2.2.1]? = some old := ⟨_, List.getElem?_eq_getElem hle⟩
        have wo := w.2 _ _ hold
        unfold dc_put at hx
        split at hx
        · rename_i x a' r' heq
          cases heq
          split at hx
          · rename_i o hq
            rw [hq] at wo
            obtain ⟨y, rfl⟩ := wo
            refine ⟨dc_wf_wr wf (dc_we_put hle w (by rw [hq]; exact ⟨x, rfl⟩)), ?_⟩
            have e1 : dc_vw (ab_wr h a (.inr (it.2.2.1, fs.set it.2.2.2.1 (.int x)))) = dc_wi m a it.2.2.2.1 x := by
              rw [dc_vw_wr, ← hv]
              unfold dc_wi
              refine Prod.ext ?_ (Prod.ext ?_ (Prod.ext ?_ ?_))
              · refine dc_set1 ?_ (fun j hj => ?_)
                · unfold dc_vi
                  dsimp only
                  rw [dc_gs hle, if_pos rfl]
                · rw [dc_v1 hr]
                  unfold dc_vi
                  dsimp only
                  rw [dc_gs hle, if_neg hj]
              · refine dc_same2 (fun j => ?_)
                rw [dc_v2 hr]
                unfold dc_vl
                dsimp only
                rw [dc_gs hle]
                by_cases q : j = it.2.2.2.1
                · rw [if_pos q, q, hold]
                · rw [if_neg q]
              · refine dc_same3 (fun j => ?_)
                rw [dc_v3 hr]
                unfold dc_vr
                dsimp only
                rw [dc_gs hle]
                by_cases q : j = it.2.2.2.1
                · rw [if_pos q, q, hold]
                · rw [if_neg q]
              · exact dc_same4 (by rw [dc_v4 hr]; rfl)
            dsimp only
            rw [e1]
            exact hk _ _ _ _ _ hs hx
          · exact (dc_kz_no hx).elim
        · rename_i x a' r' heq
          cases heq
          split at hx
          · rename_i o hq
            rw [hq] at wo
            obtain ⟨y, rfl⟩ := wo
            refine ⟨dc_wf_wr wf (dc_we_put hle w (by rw [hq]; exact ⟨x, rfl⟩)), ?_⟩
            have e1 : dc_vw (ab_wr h a (.inr (it.2.2.1, fs.set it.2.2.2.1 (.long x)))) = dc_wl m a it.2.2.2.1 x := by
              rw [dc_vw_wr, ← hv]
              unfold dc_wl
              refine Prod.ext ?_ (Prod.ext ?_ (Prod.ext ?_ ?_))
              · refine dc_same1 (fun j => ?_)
                rw [dc_v1 hr]
                unfold dc_vi
                dsimp only
                rw [dc_gs hle]
                by_cases q : j = it.2.2.2.1
                · rw [if_pos q, q, hold]
                · rw [if_neg q]
              · refine dc_set1 ?_ (fun j hj => ?_)
                · unfold dc_vl
                  dsimp only
                  rw [dc_gs hle, if_pos rfl]
                · rw [dc_v2 hr]
                  unfold dc_vl
                  dsimp only
                  rw [dc_gs hle, if_neg hj]
              · refine dc_same3 (fun j => ?_)
                rw [dc_v3 hr]
                unfold dc_vr
                dsimp only
                rw [dc_gs hle]
                by_cases q : j = it.2.2.2.1
                · rw [if_pos q, q, hold]
                · rw [if_neg q]
              · exact dc_same4 (by rw [dc_v4 hr]; rfl)
            dsimp only
            rw [e1]
            exact hk _ _ _ _ _ hs hx
          · exact (dc_kz_no hx).elim
        · rename_i x a' r' heq
          cases heq
          split at hx
          · rename_i o hq
            rw [hq] at wo
            obtain ⟨y, rfl⟩ := wo
            refine ⟨dc_wf_wr wf (dc_we_put hle w (by rw [hq]; exact ⟨x, rfl⟩)), ?_⟩
            have e1 : dc_vw (ab_wr h a (.inr (it.2.2.1, fs.set it.2.2.2.1 (.ref x)))) = dc_wr m a it.2.2.2.1 x := by
              rw [dc_vw_wr, ← hv]
              unfold dc_wr
              refine Prod.ext ?_ (Prod.ext ?_ (Prod.ext ?_ ?_))
              · refine dc_same1 (fun j => ?_)
                rw [dc_v1 hr]
                unfold dc_vi
                dsimp only
                rw [dc_gs hle]
                by_cases q : j = it.2.2.2.1
                · rw [if_pos q, q, hold]
                · rw [if_neg q]
              · refine dc_same2 (fun j => ?_)
                rw [dc_v2 hr]
                unfold dc_vl
                dsimp only
                rw [dc_gs hle]
                by_cases q : j = it.2.2.2.1
                · rw [if_pos q, q, hold]
                · rw [if_neg q]
              · refine dc_set1 ?_ (fun j hj => ?_)
                · unfold dc_vr
                  dsimp only
                  rw [dc_gs hle, if_pos rfl]
                · rw [dc_v3 hr]
                  unfold dc_vr
                  dsimp only
                  rw [dc_gs hle, if_neg hj]
              · exact dc_same4 (by rw [dc_v4 hr]; rfl)
            dsimp only
            rw [e1]
            exact hk _ _ _ _ _ hs hx
          · exact (dc_kz_no hx).elim
        · exact (dc_kz_no hx).elim
      · cases e
    · cases e
  · cases e)
end DC
