section ABW
variable {p : Program} {l : Launch} {e : Env} {R : Room} {s : State} {m : MethodId} {args : Array Value} {below : List Frame} {meth : Method} {c : Code} {H : Heap} {locs : List Loc} {cells slots : Nat} {Q : State → Prop}
variable {M : ab_M} {b : ab_V} {z : Nat} {D : va_G} {dA : Nat → ClassId} {L : Nat} {xs : Nat → Int32} {pc pc' : Nat} {ls : Array Slot} {lv lv' : ab_L} {st st' : List Value} {h h' : ab_H} {c0 s0 : Nat}
theorem ab_ad_ge {a : Nat} (h0 : 0 < a) : ab_A z (ab_ad b z a) := by
  show z ≤ ab_ad b z a
  rw [ab_ad_pos h0]
  omega
set_option maxHeartbeats 4000000 in
theorem ab_o_put (C : ab_Cx p s m args meth c M b z D dA L xs) {i ci k N : Nat} {Cn : String} {T : u_T} (hd : decode M.2.1 pc = .ok (.putfield i, 3)) (hcl : ab_cl[ci]? = some (Cn, T, N)) (hk : k < N) (hw : Cond.fieldLink M.1.cls i (T k).1 (T k).2.1 (T k).2.2.1 ∈ ab_tb) (hfin : (T k).2.2.2 = true → M.1.name = "<init>" ∧ (T k).1 = M.1.cls) (hs : ab_put ci k pc lv st h = some (pc', lv', st', h')) (hR : ab_R b z D dA L xs h H) (hS : va_S (ab_A z) s.heap H locs) (hl : lv_has ls M.2.2.1 (lv.map (ab_q b z))) (hc : h.1 = c0 + cells) (hq : h.2.1 = s0 + slots) (kk : ab_KK p l e R s m args below meth c Q M.2.2.1 b z D dA L xs c0 s0 pc' lv' st' h') : W p l e R s m args below meth c H locs cells slots Q (F0 m pc ls (st.map (ab_v b z))) := by
  unfold ab_put at hs
  split at hs
  · rename_i v a r
    split at hs
    · rename_i cj fs ho
      split at hs
      · rename_i hcj
        obtain ⟨hcj, hkl, hft⟩ := hcj
        subst hcj
        cases hs
        obtain ⟨ha, hx⟩ := ab_rd_of ho
        have h0 := hR.pos hx
        have hat := hR.2.2.2 a h0 ha
        rw [hx] at hat
        obtain ⟨rr, hr1, cell, q1, q2, q3, q4⟩ := hat
        have hr : rr = (Cn, T, N) := Option.some.inj (hr1.symm.trans hcl)
        subst hr
        obtain ⟨hin, hty, hnm, -, -⟩ := ab_cl_ok hcl
        have hts := C.2.2.2.2.1
        have hown := C.2.2.2.1
        have hK := C.2.2.2.2.2.2.2.2.1
        obtain ⟨hn, hfit⟩ := ab_fit_of (b := b) (z := z) hft
        have hap := va_apart (own := M.1.cls) hts hin (ab_ty cj) hty hnm hK hcl
        obtain ⟨hSl, hfc, kC, hkC, hkind⟩ := hK.1 cj _ hcl
        obtain ⟨cf, kf, fi, f, hi, hsl⟩ := hSl k hk
        have hlay := hts _ (hin _ (u_in_lay hk))
        unfold u_lay at hlay
        have hst := (u_facts hfc hkC (u_lays hts hin hk) hi).1
        have hend : ∀ H1 : Heap, H1[ab_ad b z a]? = some (cell.setSlot f.slot (ab_v b z v)) → H1.size = H.size → (∀ q : Nat, q ≠ ab_ad b z a → H1[q]? = H[q]?) → W p l e R s m args below meth c H1 (locs ++ [⟨ab_ad b z a, f.slot⟩]) cells slots Q (F0 m (pc + 3) ls (st'.map (ab_v b z))) := fun H1 e1 e2 e3 => by
          rw [hsl] at e1
          refine kk H1 _ _ _ _ (hR.wr h0 e2 e3 ?_) (hS.put e2 e3 (ab_ad_ge h0)) hl hc hq
          show va_at D ab_cl (ab_ad b z a, .inr (cj, (fs.set k v).map (ab_v b z))) H1
          rw [List.map_set]
          exact ⟨_, hcl, t_OB.to (V := updV (vp_V (fs.map (ab_v b z))) k (ab_v b z v)) ⟨_, e1, q2, q3, t_set q4 hap hk (ab_v b z v)⟩ (fun j _ => vp_updV_set (by rw [List.length_map]; exact hkl) (ab_v b z v) j)⟩
        by_cases hf : (T k).2.2.2 = true
        · rw [if_pos hf] at hlay
          obtain ⟨hn1, hdecl⟩ := hfin hf
          have hcf : m.cls = cf := by
            obtain ⟨_, _, c', _, _, _, -, -, hf', -, -, -, hown2, -⟩ := Cond.laysFinal_spec hlay
            have e1 : c' = cf := by have := hi.symm.trans hf'; simp at this; exact this.1.symm
            rw [hdecl] at hown2
            rw [← e1]; exact Option.some.inj (hown.symm.trans hown2)
          have h6 := u_fits hfc hkC hkind (Or.inr hlay) hi (hty k hk) hn hfit
          exact W.putFinK C.1 C.2.1 hown (hts _ hw) hi hst hcf (C.2.2.2.2.2.2.2.1 hn1) (by rw [q2]; exact h6) q1 q3 (by rw [hsl]; exact k2_hasslot (q4 k hk)) rfl rfl hd hend
        · rw [if_neg hf] at hlay
          have h6 := u_store hfc hkC hkind hlay hi (hty k hk) hn hfit
          exact W.putK C.1 C.2.1 (f := f) ⟨hown, hts _ hw, ⟨_, _, _, hi⟩, hst⟩ (by rw [q2]; exact h6) q1 q3 (by rw [hsl]; exact k2_hasslot (q4 k hk)) rfl rfl hd hend
      · cases hs
    · cases hs
  · cases hs
theorem ab_o_ias (C : ab_Cx p s m args meth c M b z D dA L xs) (hd : decode M.2.1 pc = .ok (.iastore, 1)) (hs : ab_ias pc lv st h = some (pc', lv', st', h')) (hR : ab_R b z D dA L xs h H) (hS : va_S (ab_A z) s.heap H locs) (hl : lv_has ls M.2.2.1 (lv.map (ab_q b z))) (hc : h.1 = c0 + cells) (hq : h.2.1 = s0 + slots) (kk : ab_KK p l e R s m args below meth c Q M.2.2.1 b z D dA L xs c0 s0 pc' lv' st' h') : W p l e R s m args below meth c H locs cells slots Q (F0 m pc ls (st.map (ab_v b z))) := by
  unfold ab_ias at hs
  split at hs
  · rename_i x i a r
    split at hs
    · rename_i n f ho
      split at hs
      · rename_i hi
        obtain ⟨hi, h0⟩ := hi
        cases hs
        obtain ⟨ha, hx⟩ := ab_rd_of ho
        have h0 : 0 < a := Nat.pos_of_ne_zero h0
        have hat := hR.2.2.2 a h0 ha
        rw [hx] at hat
        have hat : H[ab_ad b z a]? = some (vp_cell (dA 0) (n, .inl f)) := hat
        refine W.iast C.1 C.2.1 hat ((C.2.2.2.2.2.2.2.2.1.2 0 _ rfl).1 n (fun j => .int (f j))) (fun q => by cases q) (by show ¬ (i < 0 ∨ (arrV _ _ _).slots.size ≤ _); rw [arrV_size]; exact ab_in_of hi) rfl rfl hd fun H1 e1 z1 o1 => ?_
        refine kk H1 _ _ _ _ (hR.wr h0 z1 o1 ?_) (hS.put z1 o1 (ab_ad_ge h0)) hl hc hq
        show H1[ab_ad b z a]? = some (vp_cell _ _)
        rw [e1, vp_cell_i, vp_cell_i, arrV_store]
        congr 2
        funext q
        by_cases hq' : q = i.toNatClampNeg
        · subst hq'
          simp [updV, upd]
        · simp [updV, upd, hq']
      · cases hs
    · cases hs
  · cases hs
theorem ab_o_bas (C : ab_Cx p s m args meth c M b z D dA L xs) (hd : decode M.2.1 pc = .ok (.bastore, 1)) (hs : ab_bas pc lv st h = some (pc', lv', st', h')) (hR : ab_R b z D dA L xs h H) (hS : va_S (ab_A z) s.heap H locs) (hl : lv_has ls M.2.2.1 (lv.map (ab_q b z))) (hc : h.1 = c0 + cells) (hq : h.2.1 = s0 + slots) (kk : ab_KK p l e R s m args below meth c Q M.2.2.1 b z D dA L xs c0 s0 pc' lv' st' h') : W p l e R s m args below meth c H locs cells slots Q (F0 m pc ls (st.map (ab_v b z))) := by
  unfold ab_bas at hs
  split at hs
  · rename_i x i a r
    split at hs
    · rename_i n f ho
      split at hs
      · rename_i hi
        obtain ⟨hi, h0⟩ := hi
        cases hs
        obtain ⟨ha, hx⟩ := ab_rd_of ho
        have h0 : 0 < a := Nat.pos_of_ne_zero h0
        have hat := hR.2.2.2 a h0 ha
        rw [hx] at hat
        have hat : H[ab_ad b z a]? = some (vp_cell (dA 1) (n, .inl f)) := hat
        refine W.bast C.1 C.2.1 hat ((C.2.2.2.2.2.2.2.2.1.2 1 _ rfl).1 n (fun j => .int (f j))) (fun q => by cases q) (by show ¬ (i < 0 ∨ (arrV _ _ _).slots.size ≤ _); rw [arrV_size]; exact ab_in_of hi) rfl rfl hd fun H1 e1 z1 o1 => ?_
        refine kk H1 _ _ _ _ (hR.wr h0 z1 o1 ?_) (hS.put z1 o1 (ab_ad_ge h0)) hl hc hq
        show H1[ab_ad b z a]? = some (vp_cell _ _)
        rw [e1, vp_cell_i, vp_cell_i, arrV_store]
        congr 2
        funext q
        by_cases hq' : q = i.toNatClampNeg
        · subst hq'
          simp [updV, upd, vp_nar]
          try rfl
        · simp [updV, upd, hq']
      · cases hs
    · rename_i n f ho
      split at hs
      · rename_i hi
        obtain ⟨hi, h0⟩ := hi
        cases hs
        obtain ⟨ha, hx⟩ := ab_rd_of ho
        have h0 : 0 < a := Nat.pos_of_ne_zero h0
        have hat := hR.2.2.2 a h0 ha
        rw [hx] at hat
        have hat : H[ab_ad b z a]? = some (vp_cell (dA 3) (n, .inl f)) := hat
        refine W.zast C.1 C.2.1 hat ((C.2.2.2.2.2.2.2.2.1.2 3 _ rfl).1 n (fun j => .int (f j))) (fun q => by cases q) (by show ¬ (i < 0 ∨ (arrV _ _ _).slots.size ≤ _); rw [arrV_size]; exact ab_in_of hi) rfl rfl hd fun H1 e1 z1 o1 => ?_
        refine kk H1 _ _ _ _ (hR.wr h0 z1 o1 ?_) (hS.put z1 o1 (ab_ad_ge h0)) hl hc hq
        show H1[ab_ad b z a]? = some (vp_cell _ _)
        rw [e1, vp_cell_i, vp_cell_i, arrV_store]
        congr 2
        funext q
        by_cases hq' : q = i.toNatClampNeg
        · subst hq'
          simp [updV, upd, vp_nar]
          try rfl
        · simp [updV, upd, hq']
      · cases hs
    · cases hs
  · cases hs
theorem ab_o_las (C : ab_Cx p s m args meth c M b z D dA L xs) (hd : decode M.2.1 pc = .ok (.lastore, 1)) (hs : ab_las pc lv st h = some (pc', lv', st', h')) (hR : ab_R b z D dA L xs h H) (hS : va_S (ab_A z) s.heap H locs) (hl : lv_has ls M.2.2.1 (lv.map (ab_q b z))) (hc : h.1 = c0 + cells) (hq : h.2.1 = s0 + slots) (kk : ab_KK p l e R s m args below meth c Q M.2.2.1 b z D dA L xs c0 s0 pc' lv' st' h') : W p l e R s m args below meth c H locs cells slots Q (F0 m pc ls (st.map (ab_v b z))) := by
  unfold ab_las at hs
  split at hs
  · rename_i x i a r
    split at hs
    · rename_i n f ho
      split at hs
      · rename_i hi
        obtain ⟨hi, h0⟩ := hi
        cases hs
        obtain ⟨ha, hx⟩ := ab_rd_of ho
        have h0 : 0 < a := Nat.pos_of_ne_zero h0
        have hat := hR.2.2.2 a h0 ha
        rw [hx] at hat
        have hat : H[ab_ad b z a]? = some (vp_cell (dA 2) (n, .inr (.inl f))) := hat
        refine W.last C.1 C.2.1 hat ((C.2.2.2.2.2.2.2.2.1.2 2 _ rfl).1 n (fun j => .long (f j))) (fun q => by cases q) (by show ¬ (i < 0 ∨ (arrV _ _ _).slots.size ≤ _); rw [arrV_size]; exact ab_in_of hi) rfl rfl hd fun H1 e1 z1 o1 => ?_
        refine kk H1 _ _ _ _ (hR.wr h0 z1 o1 ?_) (hS.put z1 o1 (ab_ad_ge h0)) hl hc hq
        show H1[ab_ad b z a]? = some (vp_cell _ _)
        rw [e1, vp_cell_l, vp_cell_l, arrV_store]
        congr 2
        funext q
        by_cases hq' : q = i.toNatClampNeg
        · subst hq'
          simp [updV, vp_updL]
        · simp [updV, vp_updL, hq']
      · cases hs
    · cases hs
  · cases hs
theorem ab_o_aas (C : ab_Cx p s m args meth c M b z D dA L xs) (hd : decode M.2.1 pc = .ok (.aastore, 1)) (hs : ab_aas pc lv st h = some (pc', lv', st', h')) (hR : ab_R b z D dA L xs h H) (hS : va_S (ab_A z) s.heap H locs) (hl : lv_has ls M.2.2.1 (lv.map (ab_q b z))) (hc : h.1 = c0 + cells) (hq : h.2.1 = s0 + slots) (kk : ab_KK p l e R s m args below meth c Q M.2.2.1 b z D dA L xs c0 s0 pc' lv' st' h') : W p l e R s m args below meth c H locs cells slots Q (F0 m pc ls (st.map (ab_v b z))) := by
  unfold ab_aas at hs
  split at hs
  · rename_i v i a r
    split at hs
    · rename_i n f ho
      split at hs
      · rename_i vs hov
        split at hs
        · rename_i hi
          obtain ⟨hi, h0⟩ := hi
          cases hs
          obtain ⟨ha, hx⟩ := ab_rd_of ho
          obtain ⟨hav, hxv⟩ := ab_rd_of hov
          have h0 : 0 < a := Nat.pos_of_ne_zero h0
          have h0v := hR.pos hxv
          have hat := hR.2.2.2 a h0 ha
          rw [hx] at hat
          have hat : H[ab_ad b z a]? = some (vp_cell (dA 4) (n, .inr (.inr (.inr (.inr (fun j => (f j).map (ab_ad b z))))))) := hat
          have hatv := hR.2.2.2 v h0v hav
          rw [hxv] at hatv
          obtain ⟨r', hr', cellV, g1, g2, g3, -⟩ := hatv
          have hin := ab_in_of hi
          have hlt : i.toNatClampNeg < n := Nat.not_le.mp fun q => hin (Or.inr q)
          have hi0 : ¬ i < 0 := fun q => hin (Or.inl q)
          have hK := C.2.2.2.2.2.2.2.2.1
          have hcls := (hK.1 6 (RX6, TX6, 3) rfl).2
          obtain ⟨kA, comp, k1, k2, k3, -⟩ := (hK.2 4 _ rfl).2
          have hcomp : comp = D.1 6 := Option.some.inj (k3.symm.trans hcls.1)
          subst hcomp
          obtain ⟨kC, hkC, -⟩ := hcls.2
          refine W.aast C.1 C.2.1 hat (fun q h => by cases h) (fun h => by cases h) k1 k2 rfl hkC ⟨hi0, by show _ < (arrV _ _ _).slots.size; rw [arrV_size]; exact hlt⟩ g1 (fun q h => by rw [g3] at h; cases h) (by rw [g2]; exact hkC) (by rw [g2]; exact va_assign hcls) rfl rfl hd fun H1 e1 z1 o1 => ?_
          refine kk H1 _ _ _ _ (hR.wr h0 z1 o1 ?_) (hS.put z1 o1 (ab_ad_ge h0)) hl hc hq
          show H1[ab_ad b z a]? = some (vp_cell _ _)
          rw [e1, vp_cell_q, vp_cell_q, arrV_store]
          congr 2
          funext q
          by_cases hq' : q = i.toNatClampNeg
          · subst hq'
            simp [updV, va_up, va_rf]
          · simp [updV, va_up, hq']
        · cases hs
      · cases hs
    · cases hs
  · cases hs
theorem ab_v_df (b : ab_V) (z : Nat) (ty : FieldType) : ab_v b z (defaultValue ty) = defaultValue ty := by cases ty <;> rfl
theorem ab_o_new (C : ab_Cx p s m args meth c M b z D dA L xs) {i ci N : Nat} {Cn : String} {T : u_T} (hd : decode M.2.1 pc = .ok (.new i, 3)) (hcl : ab_cl[ci]? = some (Cn, T, N)) (hw : Cond.classLink M.1.cls i Cn ∈ ab_tb) (hs : ab_new ci pc lv st h = some (pc', lv', st', h')) (hR : ab_R b z D dA L xs h H) (hS : va_S (ab_A z) s.heap H locs) (hl : lv_has ls M.2.2.1 (lv.map (ab_q b z))) (hc : h.1 = c0 + cells) (hq : h.2.1 = s0 + slots) (hc2 : h'.1 ≤ c0 + R.cells) (hq2 : h'.2.1 ≤ s0 + R.slots) (kk : ab_KK p l e R s m args below meth c Q M.2.2.1 b z D dA L xs c0 s0 pc' lv' st' h') : W p l e R s m args below meth c H locs cells slots Q (F0 m pc ls (st.map (ab_v b z))) := by
  cases hs
  obtain ⟨hin, hty, hnm, ⟨hini, hins⟩, hN⟩ := ab_cl_ok hcl
  subst hN
  have hts := C.2.2.2.2.1
  have hK := C.2.2.2.2.2.2.2.2.1
  have hKn := hK.1 ci _ hcl
  have hc2 : h.1 + 1 ≤ c0 + R.cells := hc2
  have hq2 : h.2.1 + ab_N ci ≤ s0 + R.slots := hq2
  refine W.newcK C.1 C.2.1 C.2.2.2.1 (hts _ hw) (hts _ hins) (hts _ hini) rfl hd (by omega) (by omega) hKn.2.1 rfl fun H1 kC hkC e1 z1 o1 => ?_
  have hadr : Value.ref H.size = ab_v b z (.ref h.1) := by
    show Value.ref H.size = Value.ref (ab_ad b z h.1)
    rw [ab_ad_pos hR.2.1]
    have g1 := hR.1
    have g2 := hR.2.1
    exact congrArg Value.ref (show (H.size : Nat) = z + (h.1 - 1) by omega)
  rw [hadr]
  refine kk H1 _ _ _ _ (hR.nw z1 o1 ?_) (ab_S_push hS z1 o1) hl (by show h.1 + 1 = c0 + (cells + 1); omega) (by show h.2.1 + ab_N ci = s0 + (slots + ab_N ci); omega)
  refine ⟨_, hcl, (u_born (ab_ty ci) hts hin hKn hkC e1 hty).to fun j hj => ?_⟩
  show defaultValue (ab_ty ci j) = ((ab_df ci).map (ab_v b z)).getD j .null
  have hj : j < ab_N ci := hj
  simp only [ab_df, List.getD_eq_getElem?_getD, List.getElem?_map, List.getElem?_range hj, Option.map_some, Option.getD_some, ab_v_df]
theorem ab_o_nwa (C : ab_Cx p s m args meth c M b z D dA L xs) {t : ArrayType} (hd : decode M.2.1 pc = .ok (.newarray t, 2)) (hw : Cond.arrayClass (newarray.typeOf t) ∈ ab_tb) (hs : ab_nwa t pc lv st h = some (pc', lv', st', h')) (hR : ab_R b z D dA L xs h H) (hS : va_S (ab_A z) s.heap H locs) (hl : lv_has ls M.2.2.1 (lv.map (ab_q b z))) (hc : h.1 = c0 + cells) (hq : h.2.1 = s0 + slots) (hc2 : h'.1 ≤ c0 + R.cells) (hq2 : h'.2.1 ≤ s0 + R.slots) (kk : ab_KK p l e R s m args below meth c Q M.2.2.1 b z D dA L xs c0 s0 pc' lv' st' h') : W p l e R s m args below meth c H locs cells slots Q (F0 m pc ls (st.map (ab_v b z))) := by
  unfold ab_nwa at hs
  split at hs
  · rename_i n r
    split at hs
    · rename_i q0 htau
      split at hs
      · rename_i hn
        obtain ⟨hn, hle⟩ := hn
        cases hs
        have hK := C.2.2.2.2.2.2.2.2.1
        have hc2 : h.1 + 1 ≤ c0 + R.cells := hc2
        have hq2 : h.2.1 + n.toNatClampNeg ≤ s0 + R.slots := hq2
        have hadr : Value.ref H.size = ab_v b z (.ref h.1) := by
          show Value.ref H.size = Value.ref (ab_ad b z h.1)
          rw [ab_ad_pos hR.2.1]
          have g1 := hR.1
          have g2 := hR.2.1
          exact congrArg Value.ref (show (H.size : Nat) = z + (h.1 - 1) by omega)
        refine va_newaK C.1 C.2.1 (C.2.2.2.2.1 _ hw) rfl hd rfl hn rfl (Nat.le_trans (Nat.mul_le_mul hle (show componentBytes (newarray.typeOf t) ≤ 8 by cases t <;> decide)) (by decide)) (by omega) (by omega) rfl fun H1 cA e1 z1 o1 hAr hNm => ?_
        rw [hadr]
        refine kk H1 _ _ _ _ (hR.nw z1 o1 ?_) (ab_S_push hS z1 o1) hl (by show h.1 + 1 = c0 + (cells + 1); omega) (by show h.2.1 + n.toNatClampNeg = s0 + (slots + n.toNatClampNeg); omega)
        cases t <;> first | (cases htau; done) | skip
        all_goals cases htau
        · have hca : cA = dA 3 := Option.some.inj (hNm.symm.trans (hK.2 3 _ rfl).2)
          subst hca
          show H1[H.size]? = some (vp_cell (dA 3) (n.toNatClampNeg, .inl (fun _ => 0)))
          rw [vp_cell_i]
          exact e1
        · have hca : cA = dA 1 := Option.some.inj (hNm.symm.trans (hK.2 1 _ rfl).2)
          subst hca
          show H1[H.size]? = some (vp_cell (dA 1) (n.toNatClampNeg, .inl (fun _ => 0)))
          rw [vp_cell_i]
          exact e1
        · have hca : cA = dA 0 := Option.some.inj (hNm.symm.trans (hK.2 0 _ rfl).2)
          subst hca
          show H1[H.size]? = some (vp_cell (dA 0) (n.toNatClampNeg, .inl (fun _ => 0)))
          rw [vp_cell_i]
          exact e1
        · have hca : cA = dA 2 := Option.some.inj (hNm.symm.trans (hK.2 2 _ rfl).2)
          subst hca
          show H1[H.size]? = some (vp_cell (dA 2) (n.toNatClampNeg, .inr (.inl (fun _ => 0))))
          rw [vp_cell_l]
          exact e1
      · cases hs
    · cases hs
  · cases hs
theorem ab_o_ana (C : ab_Cx p s m args meth c M b z D dA L xs) {i : Nat} (hd : decode M.2.1 pc = .ok (.anewarray i, 3)) (hw : Cond.classLink M.1.cls i RX6 ∈ ab_tb) (hs : ab_ana pc lv st h = some (pc', lv', st', h')) (hR : ab_R b z D dA L xs h H) (hS : va_S (ab_A z) s.heap H locs) (hl : lv_has ls M.2.2.1 (lv.map (ab_q b z))) (hc : h.1 = c0 + cells) (hq : h.2.1 = s0 + slots) (hc2 : h'.1 ≤ c0 + R.cells) (hq2 : h'.2.1 ≤ s0 + R.slots) (kk : ab_KK p l e R s m args below meth c Q M.2.2.1 b z D dA L xs c0 s0 pc' lv' st' h') : W p l e R s m args below meth c H locs cells slots Q (F0 m pc ls (st.map (ab_v b z))) := by
  unfold ab_ana at hs
  split at hs
  · rename_i n r
    split at hs
    · rename_i hn
      obtain ⟨hn, hle⟩ := hn
      cases hs
      have hK := C.2.2.2.2.2.2.2.2.1
      have hc2 : h.1 + 1 ≤ c0 + R.cells := hc2
      have hq2 : h.2.1 + n.toNatClampNeg ≤ s0 + R.slots := hq2
      have hadr : Value.ref H.size = ab_v b z (.ref h.1) := by
        show Value.ref H.size = Value.ref (ab_ad b z h.1)
        rw [ab_ad_pos hR.2.1]
        have g1 := hR.1
        have g2 := hR.2.1
        exact congrArg Value.ref (show (H.size : Nat) = z + (h.1 - 1) by omega)
      refine W.anew C.1 C.2.1 C.2.2.2.1 (C.2.2.2.2.1 _ hw) (va_AO.use C.2.2.2.2.2.2.2.2.2.2.1) rfl hd rfl hn (Nat.le_trans (Nat.mul_le_mul_right 4 hle) (by decide)) (by omega) (by omega) fun cA kA comp f1 f2 f3 f4 => ?_
      generalize hH1 : H.push ({ cls := cA, slots := Array.replicate n.toNatClampNeg .null, vm := .none } : Cell) = H1
      have z1 : H1.size = H.size + 1 := by rw [← hH1, Array.size_push]
      have e1 : H1[H.size]? = some (arrV cA n.toNatClampNeg (fun _ => .null)) := by rw [← hH1, Array.getElem?_push_size, ← arrV_new]
      have o1 : ∀ q : Nat, q < H.size → H1[q]? = H[q]? := fun q hq => by rw [← hH1, Array.getElem?_push, if_neg (Nat.ne_of_lt hq)]
      rw [hadr]
      refine kk H1 _ _ _ _ (hR.nw z1 o1 ?_) (ab_S_push hS z1 o1) hl (by show h.1 + 1 = c0 + (cells + 1); omega) (by show h.2.1 + n.toNatClampNeg = s0 + (slots + n.toNatClampNeg); omega)
      obtain ⟨kA', comp', -, -, -, g4⟩ := (hK.2 4 _ rfl).2
      have hca : cA = dA 4 := Option.some.inj (f1.symm.trans g4)
      subst hca
      show H1[H.size]? = some (vp_cell (dA 4) (n.toNatClampNeg, .inr (.inr (.inr (.inr (fun j => none))))))
      rw [vp_cell_q]
      exact e1
    · cases hs
  · cases hs
theorem ab_o_gs (C : ab_Cx p s m args meth c M b z D dA L xs) {i k : Nat} (hd : decode M.2.1 pc = .ok (.getstatic i, 3)) (hw : (k = 0 ∧ Cond.fieldLink M.1.cls i RX8 "HIGH" "[J" ∈ ab_tb) ∨ (k = 1 ∧ Cond.fieldLink M.1.cls i "java/lang/String" "COMPACT_STRINGS" "Z" ∈ ab_tb) ∨ (k = 2 ∧ Cond.fieldLink M.1.cls i "jdk/internal/util/Preconditions" "SIOOBE_FORMATTER" "Ljava/util/function/BiFunction;" ∈ ab_tb)) (hs : ab_gs k pc lv st h = some (pc', lv', st', h')) (hR : ab_R b z D dA L xs h H) (hS : va_S (ab_A z) s.heap H locs) (hl : lv_has ls M.2.2.1 (lv.map (ab_q b z))) (hc : h.1 = c0 + cells) (hq : h.2.1 = s0 + slots) (kk : ab_KK p l e R s m args below meth c Q M.2.2.1 b z D dA L xs c0 s0 pc' lv' st' h') : W p l e R s m args below meth c H locs cells slots Q (F0 m pc ls (st.map (ab_v b z))) := by
  obtain ⟨-, -, -, -, -, -, ⟨a, ha, -, hZ0⟩, hZ1, hZ2, -⟩ := C.2.2.2.2.2.2.2.2
  rcases hw with ⟨rfl, hw⟩ | ⟨rfl, hw⟩ | ⟨rfl, hw⟩
  · cases hs
    refine va_gets C.1 C.2.1 hZ0 hS C.2.2.2.1 (C.2.2.2.2.1 _ hw) (fun _ q => q) hd ?_
    have e1 : Value.ref a = ab_v b z (.retAddr 0) := by
      show Value.ref a = va_rf (b.2 0)
      rw [ha]
      rfl
    rw [e1]
    exact kk _ _ _ _ _ hR hS hl hc hq
  · cases hs
    exact va_gets C.1 C.2.1 hZ1 hS C.2.2.2.1 (C.2.2.2.2.1 _ hw) (fun _ q => q) hd (kk _ _ _ _ _ hR hS hl hc hq)
  · cases hs
    exact va_gets C.1 C.2.1 hZ2 hS C.2.2.2.1 (C.2.2.2.2.1 _ hw) (fun _ q => q) hd (kk _ _ _ _ _ hR hS hl hc hq)
theorem ab_o_lds (C : ab_Cx p s m args meth c M b z D dA L xs) {i k : Nat} (hd : decode M.2.1 pc = .ok (.ldc i, 2)) (hw : M.1.cls = RX4 ∧ i = (ab_si k).1) (hs : ab_lds k pc lv st h = some (pc', lv', st', h')) (hR : ab_R b z D dA L xs h H) (hS : va_S (ab_A z) s.heap H locs) (hl : lv_has ls M.2.2.1 (lv.map (ab_q b z))) (hc : h.1 = c0 + cells) (hq : h.2.1 = s0 + slots) (kk : ab_KK p l e R s m args below meth c Q M.2.2.1 b z D dA L xs c0 s0 pc' lv' st' h') : W p l e R s m args below meth c H locs cells slots Q (F0 m pc ls (st.map (ab_v b z))) := by
  unfold ab_lds at hs
  split at hs
  · rename_i hk
    cases hs
    obtain ⟨-, -, -, -, -, -, -, -, -, hx⟩ := C.2.2.2.2.2.2.2.2
    obtain ⟨a, v, ha, hv, hR1, -⟩ := hx k hk
    refine va_ldcS (own := RX4) (q := a) C.1 C.2.1 (by rw [← hw.1]; exact C.2.2.2.1) (by rw [hw.2]; exact hR1) hd ?_
    have e1 : Value.ref a = ab_v b z (.retAddr (k + 1)) := by
      show Value.ref a = va_rf (b.2 (k + 1))
      rw [ha]
      rfl
    rw [e1]
    exact kk _ _ _ _ _ hR hS hl hc hq
  · cases hs
theorem ab_o_gx (C : ab_Cx p s m args meth c M b z D dA L xs) {i f : Nat} (hd : decode M.2.1 pc = .ok (.getfield i, 3)) (hw : (f = 0 ∧ Cond.fieldLink M.1.cls i "java/lang/String" "value" "[B" ∈ ab_tb) ∨ (f = 1 ∧ Cond.fieldLink M.1.cls i "java/lang/String" "coder" "B" ∈ ab_tb)) (hs : ab_gx f pc lv st h = some (pc', lv', st', h')) (hR : ab_R b z D dA L xs h H) (hS : va_S (ab_A z) s.heap H locs) (hl : lv_has ls M.2.2.1 (lv.map (ab_q b z))) (hc : h.1 = c0 + cells) (hq : h.2.1 = s0 + slots) (kk : ab_KK p l e R s m args below meth c Q M.2.2.1 b z D dA L xs c0 s0 pc' lv' st' h') : W p l e R s m args below meth c H locs cells slots Q (F0 m pc ls (st.map (ab_v b z))) := by
  unfold ab_gx at hs
  split at hs
  · rename_i k r
    split at hs
    · rename_i hk
      obtain ⟨j, rfl⟩ : ∃ j, k = j + 1 := ⟨k - 1, by omega⟩
      obtain ⟨-, -, -, -, -, -, -, -, -, hx⟩ := C.2.2.2.2.2.2.2.2
      obtain ⟨a, v, ha, hv, -, -, hco, hva, -⟩ := hx j (by omega)
      have e0 : ab_v b z (.retAddr (j + 1)) = Value.ref a := by
        show va_rf (b.2 (j + 1)) = _
        rw [ha]
        rfl
      show W p l e R s m args below meth c H locs cells slots Q (F0 m pc ls (ab_v b z (.retAddr (j + 1)) :: r.map (ab_v b z)))
      rw [e0]
      rcases hw with ⟨rfl, hw⟩ | ⟨rfl, hw⟩
      · rw [if_pos rfl] at hs
        cases hs
        refine vk_getf C.1 C.2.1 hva hS C.2.2.2.1 (C.2.2.2.2.1 _ hw) (fun _ q => q) hd ?_
        have e1 : Value.ref v = ab_v b z (.retAddr (j + 1 + 10)) := by
          show Value.ref v = va_rf (b.2 (j + 1 + 10))
          rw [show j + 1 + 10 = j + 11 by omega, hv]
          rfl
        rw [e1]
        exact kk _ _ _ _ _ hR hS hl hc hq
      · rw [if_neg (by decide)] at hs
        cases hs
        exact vk_getf C.1 C.2.1 hco hS C.2.2.2.1 (C.2.2.2.2.1 _ hw) (fun _ q => q) hd (kk _ _ _ _ _ hR hS hl hc hq)
    · cases hs
  · cases hs
theorem ab_o_lal2 (C : ab_Cx p s m args meth c M b z D dA L xs) (hd : decode M.2.1 pc = .ok (.laload, 1)) (hs : ab_lal2 pc lv st h = some (pc', lv', st', h')) (hR : ab_R b z D dA L xs h H) (hS : va_S (ab_A z) s.heap H locs) (hl : lv_has ls M.2.2.1 (lv.map (ab_q b z))) (hc : h.1 = c0 + cells) (hq : h.2.1 = s0 + slots) (kk : ab_KK p l e R s m args below meth c Q M.2.2.1 b z D dA L xs c0 s0 pc' lv' st' h') : W p l e R s m args below meth c H locs cells slots Q (F0 m pc ls (st.map (ab_v b z))) := by
  unfold ab_lal2 at hs
  split at hs
  · rename_i i k r
    split at hs
    · rename_i hk
      obtain ⟨rfl, hi⟩ := hk
      cases hs
      obtain ⟨-, -, -, -, -, -, ⟨a, ha, hT, -⟩, -⟩ := C.2.2.2.2.2.2.2.2
      have e0 : ab_v b z (.retAddr 0) = Value.ref a := by
        show va_rf (b.2 0) = _
        rw [ha]
        rfl
      show W p l e R s m args below meth c H locs cells slots Q (F0 m pc ls (.int i :: ab_v b z (.retAddr 0) :: r.map (ab_v b z)))
      rw [e0]
      exact va_tl C.1 C.2.1 hT hS (ab_in_of hi) rfl hd (kk _ _ _ _ _ hR hS hl hc hq)
    · cases hs
  · exact ab_o_lal C hd hs hR hS hl hc hq kk
theorem ab_o_bal2 (C : ab_Cx p s m args meth c M b z D dA L xs) (hd : decode M.2.1 pc = .ok (.baload, 1)) (hs : ab_bal2 pc lv st h = some (pc', lv', st', h')) (hR : ab_R b z D dA L xs h H) (hS : va_S (ab_A z) s.heap H locs) (hl : lv_has ls M.2.2.1 (lv.map (ab_q b z))) (hc : h.1 = c0 + cells) (hq : h.2.1 = s0 + slots) (kk : ab_KK p l e R s m args below meth c Q M.2.2.1 b z D dA L xs c0 s0 pc' lv' st' h') : W p l e R s m args below meth c H locs cells slots Q (F0 m pc ls (st.map (ab_v b z))) := by
  unfold ab_bal2 at hs
  split at hs
  · rename_i i k r
    split at hs
    · rename_i hk
      obtain ⟨hk, hi⟩ := hk
      cases hs
      obtain ⟨j, rfl⟩ : ∃ j, k = j + 11 := ⟨k - 11, by omega⟩
      obtain ⟨-, -, -, -, -, -, -, -, -, hx⟩ := C.2.2.2.2.2.2.2.2
      obtain ⟨a, v, ha, hv, -, -, -, -, hT⟩ := hx j (by omega)
      have e0 : ab_v b z (.retAddr (j + 11)) = Value.ref v := by
        show va_rf (b.2 (j + 11)) = _
        rw [hv]
        rfl
      rw [show j + 11 - 11 = j by omega] at hi
      show W p l e R s m args below meth c H locs cells slots Q (F0 m pc ls (.int i :: ab_v b z (.retAddr (j + 11)) :: r.map (ab_v b z)))
      rw [e0]
      refine va_tb (v := .int ((ab_xt (j + 11 - 11)).getD i.toNatClampNeg 0)) C.1 C.2.1 hT hS (ab_in_of hi) (by rw [show j + 11 - 11 = j by omega]) hd (kk _ _ _ _ _ hR hS hl hc hq)
    · cases hs
  · exact ab_o_bal C hd hs hR hS hl hc hq kk
theorem ab_o_len2 (C : ab_Cx p s m args meth c M b z D dA L xs) (hd : decode M.2.1 pc = .ok (.arraylength, 1)) (hs : ab_len2 pc lv st h = some (pc', lv', st', h')) (hR : ab_R b z D dA L xs h H) (hS : va_S (ab_A z) s.heap H locs) (hl : lv_has ls M.2.2.1 (lv.map (ab_q b z))) (hc : h.1 = c0 + cells) (hq : h.2.1 = s0 + slots) (kk : ab_KK p l e R s m args below meth c Q M.2.2.1 b z D dA L xs c0 s0 pc' lv' st' h') : W p l e R s m args below meth c H locs cells slots Q (F0 m pc ls (st.map (ab_v b z))) := by
  unfold ab_len2 at hs
  split at hs
  · rename_i k r
    split at hs
    · rename_i hk
      cases hs
      obtain ⟨j, rfl⟩ : ∃ j, k = j + 11 := ⟨k - 11, by omega⟩
      obtain ⟨-, -, -, -, -, -, -, -, -, hx⟩ := C.2.2.2.2.2.2.2.2
      obtain ⟨a, v, ha, hv, -, -, -, -, hT⟩ := hx j (by omega)
      have e0 : ab_v b z (.retAddr (j + 11)) = Value.ref v := by
        show va_rf (b.2 (j + 11)) = _
        rw [hv]
        rfl
      show W p l e R s m args below meth c H locs cells slots Q (F0 m pc ls (ab_v b z (.retAddr (j + 11)) :: r.map (ab_v b z)))
      rw [e0]
      exact va_tlen (v := Int32.ofNat (ab_xt (j + 11 - 11)).length) C.1 C.2.1 hT hS (by rw [show j + 11 - 11 = j by omega]) hd (kk _ _ _ _ _ hR hS hl hc hq)
    · cases hs
  · exact ab_o_len C hd hs hR hS hl hc hq kk
theorem ab_int_nat {z : Int32} (hz : ¬ z < 0) : z.toInt = (z.toNatClampNeg : Int) := by
  have hz0 : (0 : Int) ≤ z.toInt := by
    have := Int32.not_lt.mp hz
    simpa using Int32.le_iff_toInt_le.mp this
  show z.toInt = ((z.toInt.toNat : Nat) : Int)
  omega
set_option maxHeartbeats 4000000 in
theorem ab_o_cpy (C : ab_Cx p s m args meth c M b z D dA L xs) {i : Nat} (hd : decode M.2.1 pc = .ok (.invokestatic i, 3)) (hw : Cond.methodLink M.1.cls i arraycopyName ∈ ab_tb) (hwn : Cond.native arraycopyName ∈ ab_tb ∧ Cond.static arraycopyName ∈ ab_tb ∧ Cond.initialized "java/lang/System" ∈ ab_tb) (hfr : 1 ≤ R.frames) (hlo : 60 ≤ R.locals) (hs : ab_cpy pc lv st h = some (pc', lv', st', h')) (hR : ab_R b z D dA L xs h H) (hS : va_S (ab_A z) s.heap H locs) (hl : lv_has ls M.2.2.1 (lv.map (ab_q b z))) (hc : h.1 = c0 + cells) (hq : h.2.1 = s0 + slots) (kk : ab_KK p l e R s m args below meth c Q M.2.2.1 b z D dA L xs c0 s0 pc' lv' st' h') : W p l e R s m args below meth c H locs cells slots Q (F0 m pc ls (st.map (ab_v b z))) := by
  unfold ab_cpy at hs
  split at hs
  · rename_i n dp a sp a0 r
    split at hs
    · rename_i n0 f ho
      split at hs
      · rename_i n1 g ho1
        split at hs
        · rename_i hcn
          obtain ⟨⟨ha1, ha0⟩, ⟨h1, h2, h3⟩, ⟨h4, h5⟩, hcat⟩ := hcn
          cases hs
          obtain ⟨hx0, hx1⟩ := ab_rd_of ho
          obtain ⟨hy0, hy1⟩ := ab_rd_of ho1
          have p0 : 0 < a0 := Nat.pos_of_ne_zero ha0
          have p1 : 0 < a := Nat.pos_of_ne_zero ha1
          have hat0 := hR.2.2.2 a0 p0 hx0
          rw [hx1] at hat0
          have hat1 := hR.2.2.2 a p1 hy0
          rw [hy1] at hat1
          have hc0 : H[ab_ad b z a0]? = some (vp_cell (dA 0) (n0, .inl f)) := hat0
          have hc1 : H[ab_ad b z a]? = some (vp_cell (dA 0) (n1, .inl g)) := hat1
          have hK := C.2.2.2.2.2.2.2.2.1
          have hts := C.2.2.2.2.1
          obtain ⟨-, k0, hk0, cm0, hkk0⟩ := (hK.2 0 _ rfl).1 n0 (fun j => .int (f j))
          obtain ⟨-, k1, hk1, cm1, hkk1⟩ := (hK.2 0 _ rfl).1 n1 (fun j => .int (g j))
          intro T hT X
          obtain ⟨vm', X', step⟩ := X.arraycopy C.1 C.2.2.2.1 (hts _ hw) (hts _ hwn.1) (hts _ hwn.2.1) (hts _ hwn.2.2) (src := ab_ad b z a0) (dst := ab_ad b z a) (cs := vp_cell (dA 0) (n0, .inl f)) (cd := vp_cell (dA 0) (n1, .inl g)) (srcPos := sp) (destPos := dp) (n := n) (by rw [hT]; exact hc0) (by rw [hT]; exact hc1)
            (fun _ h => by cases h) (fun _ h => by cases h) (fun h => by cases h) (fun h => by cases h) hk0 hk1 hkk0 hkk1 (by simp [refKind]) h1 h2 h3
            (by rw [ab_int_nat h1, ab_int_nat h3]; show ¬ _ > ((arrV (dA 0) n0 (fun j => .int (f j))).slots.size : Int); rw [arrV_size]; omega)
            (by rw [ab_int_nat h2, ab_int_nat h3]; show ¬ _ > ((arrV (dA 0) n1 (fun j => .int (g j))).slots.size : Int); rw [arrV_size]; omega)
            (fun vm₁ _ i hi => by
              have e : (vp_cell (dA 0) (n0, .inl f)).slots.getD (sp.toNatClampNeg + i) .null = .int (f (sp.toNatClampNeg + i)) := by
                show (arrV (dA 0) n0 (fun j => .int (f j))).slots.getD _ _ = _
                rw [Array.getD_eq_getD_getElem?, arrV_read _ _ (by omega)]
                rfl
              refine ⟨?_, ?_⟩
              · rw [e]
                rfl
              · rw [e]
                exact trivial)
            (g := F0 m pc ls (.int n :: .int dp :: .ref (ab_ad b z a) :: .int sp :: .ref (ab_ad b z a0) :: st'.map (ab_v b z))) rfl (by rw [C.2.2.1]; exact hl.1) (rest := st'.map (ab_v b z)) rfl (by rw [C.2.1]; exact hd) hfr (by
              have hcat2 : ((st'.map (ab_v b z)).map fun v => v.category).sum ≤ 8 := by
                rw [List.map_map]
                refine Nat.le_trans (Nat.le_of_eq ?_) hcat
                congr 1
                exact List.map_congr_left fun v _ => ab_v_cat b z v
              have hnw : nativeFrameWords "java/lang/System" "arraycopy" 5 + 11 ≤ 50 := by decide +kernel
              show 2 * 0 + _ + _ ≤ _
              omega)
          have e1 : copied (vp_cell (dA 0) (n0, .inl f)) (vp_cell (dA 0) (n1, .inl g)) sp dp n = vp_cell (dA 0) (n1, .inl (va_cpy f g sp.toNatClampNeg dp.toNatClampNeg n.toNatClampNeg)) := va_copied (fun z => .int z) (dA 0) (dA 0) f g h4
          rw [e1] at X' step
          have hlt : ab_ad b z a < H.size := (Array.getElem?_eq_some_iff.mp hc1).1
          obtain ⟨t, t1, t2⟩ := kk (H.setIfInBounds (ab_ad b z a) (vp_cell (dA 0) (n1, .inl (va_cpy f g sp.toNatClampNeg dp.toNatClampNeg n.toNatClampNeg)))) _ ls cells slots (hR.wr p1 (by simp) (fun q hq => by simp [Array.getElem?_setIfInBounds, Ne.symm hq]) (show (H.setIfInBounds (ab_ad b z a) _)[ab_ad b z a]? = some _ by simp [Array.getElem?_setIfInBounds, hlt])) ⟨by simp; exact hS.1, fun q g1 g2 => by
              rw [show (H.setIfInBounds (ab_ad b z a) _)[q]? = H[q]? by simp [Array.getElem?_setIfInBounds, Ne.symm (fun e : q = ab_ad b z a => g2 (by rw [e]; exact ab_ad_ge p1))]]
              exact hS.2.1 q g1 g2, fun q hq => by
              rcases List.mem_append.mp hq with h | h
              · exact hS.2.2 q h
              · obtain ⟨zz, -, hz⟩ := List.mem_map.mp h
                rw [← hz]
                exact ab_ad_ge p1⟩ hl hc hq _ (by rw [← hT]; rfl) X'
          exact ⟨t, step t t1, t2⟩
        · cases hs
      · cases hs
    · cases hs
  · cases hs
end ABW
