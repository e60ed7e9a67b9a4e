theorem ab_good (M : ab_M) (h : ab_mo M) : GoodIn ab_tb (ab_ws M) := fun w hw => by
  rcases List.mem_cons.mp hw with rfl | hw
  · exact ab_tb_good _ h.1
  · exact ab_tb_good _ hw
theorem ab_oi_code : Cond.code Lib.objectInit ⟨#[0xb1]⟩ 1 none ∈ ab_tb ∧ Cond.instanceMethod Lib.objectInit ∈ ab_tb := ⟨ab_tb_of (i := 126) (by decide +kernel) rfl, ab_tb_of (i := 125) (by decide +kernel) rfl⟩
set_option maxHeartbeats 4000000 in
theorem ab_snd {G : Nat → Option ab_M} (hG : ∀ k M, G k = some M → ab_ok G M) (l : Launch) : ∀ n : Nat, ab_Snd G l n := by
  intro n
  induction n with
  | zero => intro p e R s m args below meth c Q M b z D dA L xs d pc lv st h r hF H locs ls cells slots c0 s0 C hM hx; cases hx
  | succ n ih =>
    intro p e R s m args below meth c Q M b z D dA L xs d pc lv st h r hF H locs ls cells slots c0 s0 C hM hx hd1 hd2 hR hS hl hc hq hcF hqF kr
    unfold ab_ex at hx
    split at hx
    · cases hx
    · rename_i it hit
      have ok := hM pc it hit
      split at hx
      · -- a plain step
        rename_i hk0
        split at hx
        · cases hx
        · rename_i s' hs
          obtain ⟨pc', lv', st', h'⟩ := s'
          have mono := ab_ex_mono n hx
          exact ab_sp_ok C ok (fun q => by rw [hk0] at q; cases q) hs hR hS hl hc hq (Nat.le_trans mono.1 hcF) (Nat.le_trans mono.2 hqF) (fun H locs ls cells slots hR hS hl hc hq => ih p e R s m args below meth c Q M b z D dA L xs d pc' lv' st' h' r hF H locs ls cells slots c0 s0 C hM hx hd1 hd2 hR hS hl hc hq hcF hqF kr)
      · -- a return
        exact kr H locs ls cells slots pc it st h hR hS hc hq ok hx
      · -- a call
        rename_i hkd
        split at hx
        · cases hx
        · rename_i d'
          split at hx
          · cases hx
          · rename_i q hcal
            obtain ⟨M', A, rest⟩ := q
            split at hx
            · cases hx
            · rename_i rr hrun
              obtain ⟨r', h'⟩ := rr
              obtain ⟨hGM, hsl, hcat, As, hAs, hcase⟩ := ab_cal_of hcal
              have okM := hG _ _ hGM
              have mono1 := ab_ex_mono n hrun
              have mono2 := ab_ex_mono n hx
              have hmet := ab_met (b := b) (z := z) (D := D) (dA := dA) (L := L) (xs := xs) ih okM hrun hsl
              have hgood := ab_good M' okM.1
              have hts := C.2.2.2.2.1
              have hX := C.2.2.2.2.2.2.2.2
              have hmax := okM.1.2.2.2.2.2.1
              have hroom : (ab_rm d' h h').frames + 1 ≤ R.frames ∧ 8 + (M'.2.2.1 + 11) + (ab_rm d' h h').locals ≤ R.locals := by
                refine ⟨hd1, ?_⟩
                show 8 + (M'.2.2.1 + 11) + 60 * d' ≤ R.locals
                omega
              have hmc : cells + (h'.1 - h.1) ≤ R.cells ∧ slots + (h'.2.1 - h.2.1) ≤ R.slots := by
                have a1 : h.1 ≤ h'.1 := mono1.1
                have a2 : h'.1 ≤ hF.1 := mono2.1
                have a3 : h.2.1 ≤ h'.2.1 := mono1.2
                have a4 : h'.2.1 ≤ hF.2.1 := mono2.2
                omega
              have hgo : ∀ (H1 : Heap) (locs1 : List Loc), ab_R b z D dA L xs h' H1 → va_S (ab_A z) s.heap H1 locs1 → W p l e R s m args below meth c H1 locs1 (cells + (h'.1 - h.1)) (slots + (h'.2.1 - h.2.1)) Q (F0 m (pc + 3) ls ((r'.map (ab_v b z)).toList ++ rest.map (ab_v b z))) := by
                intro H1 locs1 hR1 hS1
                have hst : (r'.map (ab_v b z)).toList ++ rest.map (ab_v b z) = (r'.toList ++ rest).map (ab_v b z) := by
                  rw [List.map_append]
                  cases r' <;> rfl
                rw [hst]
                have a1 : h.1 ≤ h'.1 := mono1.1
                have a3 : h.2.1 ≤ h'.2.1 := mono1.2
                exact ih p e R s m args below meth c Q M b z D dA L xs (d' + 1) (pc + 3) lv (r'.toList ++ rest) h' r hF H1 locs1 ls _ _ c0 s0 C hM hx hd1 hd2 hR1 hS1 hl (by omega) (by omega) hcF hqF kr
              have hcat2 : ((rest.map (ab_v b z)).map fun v => v.category).sum ≤ 8 := by rw [ab_cat_map]; exact hcat
              have hpre : ∀ U : State, U.heap = H → s.WarmedH U.vm → va_Pc (A.map (ab_v b z)) (ab_B b z D dA L xs h) (A.map (ab_v b z)).toArray U := fun U hU hW => ⟨rfl, hX.to hS hU hW, by rw [hU]; exact hR⟩
              have hblind := ab_blind (A.map (ab_v b z)) b z D dA L xs h
              obtain ⟨i, len, r0, r1, r2, cst, ix⟩ := it
              obtain ⟨hd, hlen, hw⟩ := ok
              have hn : (As.map (ab_v b z)).length = r2 := by rw [List.length_map]; exact hAs
              rcases hcase with ⟨h13, hkind, hA, hst⟩ | ⟨h0, hkind, a, fs, hA, hst, hrd⟩ | ⟨h24, hkind, a, hA, hst⟩ | ⟨h9, hkind, k, hk, hA, hst⟩
              · -- static
                subst hA
                have hstk : st.map (ab_v b z) = (A.map (ab_v b z)).reverse ++ rest.map (ab_v b z) := by rw [hst, List.map_append, List.map_reverse]
                have hstatic := hts _ (okM.1.2.2.2.2.2.2.2.1 hkind)
                cases i with
                | invokestatic idx =>
                  have hlen : len = 3 := hlen
                  subst hlen
                  have hw : (r0 = 8 ∧ Cond.methodLink M.1.cls idx arraycopyName ∈ ab_tb) ∨ (r0 = 1 ∧ ∀ M', G r1 = some M' → Cond.methodLink M.1.cls idx M'.1 ∈ ab_tb ∧ (parseMethodDescriptor M'.1.desc).map (fun d => d.parameters.length) = some r2) ∨ (r0 = 3 ∧ ∀ M', G r1 = some M' → Cond.methodLinkNest M.1.cls idx M'.1 RX9 ∈ lw_tbl ∧ (parseMethodDescriptor M'.1.desc).map (fun d => d.parameters.length) = some r2) := hw
                  rcases hw with ⟨h8, -⟩ | ⟨-, hw⟩ | ⟨-, hw⟩
                  · have h13 : r0 = 1 ∨ r0 = 3 := h13
                    omega
                  · obtain ⟨hlink, hdesc⟩ := hw M' hGM
                    have cw : CallB R s args M.1.cls idx M'.1 M'.2.1 M'.2.2.1 M'.2.2.2.1 (ab_ws M') (ab_rm d' h h') (h'.1 - h.1) (h'.2.1 - h.2.1) r2 := callB_of r2 hts hgood rfl rfl rfl (hts _ okM.1.2.1) (hts _ hlink) ⟨okM.1.2.2.1, okM.1.2.2.2.1, hdesc⟩ hroom
                    refine ab_call (va_runS (As := A.map (ab_v b z)) (rest := rest.map (ab_v b z)) (C.1 |> fun q => ⟨q, C.2.1, C.2.2.1, C.2.2.2.1, hts⟩) hmet ⟨cw, hstatic⟩ ⟨hblind, hpre⟩ rfl hn hl.1 hstk (lv_room hcat2) hd hmc) hS hgo
                  · obtain ⟨hlink, hdesc⟩ := hw M' hGM
                    have cw : va_CN R s args M.1.cls idx M'.1 RX9 M'.2.1 M'.2.2.1 M'.2.2.2.1 (ab_ws M') (ab_rm d' h h') (h'.1 - h.1) (h'.2.1 - h.2.1) r2 := va_cnB r2 hts hgood rfl rfl rfl (hX.2.1 _ _ _ _ hlink) (hts _ okM.1.2.1) ⟨okM.1.2.2.1, okM.1.2.2.2.1, hdesc⟩ hroom
                    refine ab_call (va_runSN (As := A.map (ab_v b z)) (rest := rest.map (ab_v b z)) (C.1 |> fun q => ⟨q, C.2.1, C.2.2.1, C.2.2.2.1, hts⟩) hmet ⟨cw, hstatic, trivial⟩ ⟨hblind, hpre⟩ rfl hn hl.1 hstk (lv_room hcat2) hd hmc) hS hgo
                | invokevirtual idx =>
                  have hw0 : r0 = 0 ∨ r0 = 9 := hw.1
                  have h13 : r0 = 1 ∨ r0 = 3 := h13
                  omega
                | invokespecial idx =>
                  have h13 : r0 = 1 ∨ r0 = 3 := h13
                  rcases hw with ⟨hw, -⟩ | ⟨hw, -⟩ | ⟨hw, -⟩
                  · have hw : r0 = 5 := hw
                    omega
                  · have hw : r0 = 2 := hw
                    omega
                  · have hw : r0 = 4 := hw
                    omega
                | _ => cases hkd
              · -- virtual
                subst hA
                have hstk : st.map (ab_v b z) = (As.map (ab_v b z)).reverse ++ .ref (ab_ad b z a) :: rest.map (ab_v b z) := by rw [hst, List.map_append, List.map_reverse]; rfl
                obtain ⟨hinst, hsel, T, N, hcl⟩ := okM.1.2.2.2.2.2.2.1 hkind
                obtain ⟨ha, hx2⟩ := ab_rd_of hrd
                have hpos := hR.pos hx2
                have hat := hR.2.2.2 a hpos ha
                rw [hx2] at hat
                have hrecv := va_recv (q0 := 0) (hK := hX.1) (ab_one hat) hcl rfl
                cases i with
                | invokevirtual idx =>
                  have hlen : len = 3 := hlen
                  subst hlen
                  obtain ⟨hlink, hdesc⟩ := hw.2 M' hGM
                  have cw : CallB R s args M.1.cls idx M'.1 M'.2.1 M'.2.2.1 M'.2.2.2.1 (ab_ws M') (ab_rm d' h h') (h'.1 - h.1) (h'.2.1 - h.2.1) r2 := callB_of r2 hts hgood rfl rfl rfl (hts _ okM.1.2.1) (hts _ hlink) ⟨okM.1.2.2.1, okM.1.2.2.2.1, hdesc⟩ hroom
                  refine ab_call (va_runV (As := As.map (ab_v b z)) (rest := rest.map (ab_v b z)) (C.1 |> fun q => ⟨q, C.2.1, C.2.2.1, C.2.2.2.1, hts⟩) hmet ⟨cw, hts _ hinst, hts _ hsel⟩ ⟨hblind, hrecv, hpre⟩ rfl hn hl.1 hstk (lv_room hcat2) hd hmc) hS hgo
                | invokestatic idx =>
                  have h0 : r0 = 0 := h0
                  rcases hw with ⟨hw, -⟩ | ⟨hw, -⟩ | ⟨hw, -⟩
                  · have hw : r0 = 8 := hw
                    omega
                  · have hw : r0 = 1 := hw
                    omega
                  · have hw : r0 = 3 := hw
                    omega
                | invokespecial idx =>
                  have h0 : r0 = 0 := h0
                  rcases hw with ⟨hw, -⟩ | ⟨hw, -⟩ | ⟨hw, -⟩
                  · have hw : r0 = 5 := hw
                    omega
                  · have hw : r0 = 2 := hw
                    omega
                  · have hw : r0 = 4 := hw
                    omega
                | _ => cases hkd
              · -- a constructor
                subst hA
                have hstk : st.map (ab_v b z) = (As.map (ab_v b z)).reverse ++ .ref (ab_ad b z a) :: rest.map (ab_v b z) := by rw [hst, List.map_append, List.map_reverse]; rfl
                obtain ⟨hini, hinst, hret⟩ := okM.1.2.2.2.2.2.2.2.2.1 hkind
                cases i with
                | invokespecial idx =>
                  have hlen : len = 3 := hlen
                  subst hlen
                  rcases hw with ⟨hw5, -⟩ | ⟨-, hw⟩ | ⟨-, hw⟩
                  · have hw5 : r0 = 5 := hw5
                    subst hw5
                    cases hkd
                  · obtain ⟨hlink, hdesc⟩ := hw M' hGM
                    have cw : CallB R s args M.1.cls idx M'.1 M'.2.1 M'.2.2.1 none (ab_ws M') (ab_rm d' h h') (h'.1 - h.1) (h'.2.1 - h.2.1) r2 := callB_of r2 hts hgood (by rw [← hret]; rfl) rfl rfl (hts _ okM.1.2.1) (hts _ hlink) ⟨okM.1.2.2.1, okM.1.2.2.2.1, hdesc⟩ hroom
                    refine ab_call (va_runI (As := As.map (ab_v b z)) (rest := rest.map (ab_v b z)) (C.1 |> fun q => ⟨q, C.2.1, C.2.2.1, C.2.2.2.1, hts⟩) hmet ⟨cw, hini, hts _ hinst⟩ ⟨hblind, hpre⟩ rfl hn hl.1 hstk (lv_room hcat2) hd hmc) hS hgo
                  · obtain ⟨hlink, hdesc⟩ := hw M' hGM
                    have cw : va_CN R s args M.1.cls idx M'.1 RX9 M'.2.1 M'.2.2.1 none (ab_ws M') (ab_rm d' h h') (h'.1 - h.1) (h'.2.1 - h.2.1) r2 := va_cnB r2 hts hgood (by rw [← hret]; rfl) rfl rfl (hX.2.1 _ _ _ _ hlink) (hts _ okM.1.2.1) ⟨okM.1.2.2.1, okM.1.2.2.2.1, hdesc⟩ hroom
                    refine ab_call (va_runIN (As := As.map (ab_v b z)) (rest := rest.map (ab_v b z)) (C.1 |> fun q => ⟨q, C.2.1, C.2.2.1, C.2.2.2.1, hts⟩) hmet ⟨cw, hini, hts _ hinst⟩ ⟨hblind, hpre⟩ rfl hn hl.1 hstk (lv_room hcat2) hd hmc) hS hgo
                | invokevirtual idx =>
                  have hw0 : r0 = 0 ∨ r0 = 9 := hw.1
                  have h24 : r0 = 2 ∨ r0 = 4 := h24
                  omega
                | invokestatic idx =>
                  have h24 : r0 = 2 ∨ r0 = 4 := h24
                  rcases hw with ⟨hw, -⟩ | ⟨hw, -⟩ | ⟨hw, -⟩
                  · have hw : r0 = 8 := hw
                    omega
                  · have hw : r0 = 1 := hw
                    omega
                  · have hw : r0 = 3 := hw
                    omega
                | _ => cases hkd
              · -- a text's method
                subst hA
                obtain ⟨hinst, hsel, hcls⟩ := okM.1.2.2.2.2.2.2.2.2.2 hkind
                obtain ⟨j, rfl⟩ : ∃ j, k = j + 1 := ⟨k - 1, by omega⟩
                obtain ⟨-, -, -, -, -, -, -, -, -, hxt⟩ := id hX
                obtain ⟨ax, vx, hax, -, -, hox, -⟩ := hxt j (by omega)
                have e0 : ab_v b z (.retAddr (j + 1)) = Value.ref ax := by
                  show va_rf (b.2 (j + 1)) = _
                  rw [hax]
                  rfl
                have hA2 : (Value.retAddr (j + 1) :: As).map (ab_v b z) = .ref ax :: As.map (ab_v b z) := by
                  show ab_v b z (.retAddr (j + 1)) :: _ = _
                  rw [e0]
                have hstk : st.map (ab_v b z) = (As.map (ab_v b z)).reverse ++ .ref ax :: rest.map (ab_v b z) := by
                  rw [hst, List.map_append, List.map_reverse]
                  show _ ++ ab_v b z (.retAddr (j + 1)) :: _ = _
                  rw [e0]
                have hrecv : ∃ cellB : Cell, H[ax]? = some cellB ∧ cellB.vm.isStatics = false ∧ s.vm.findClass M'.1.cls = some cellB.cls := by
                  obtain ⟨cell, g1, g2, g3, -⟩ := hox.kept hS.2.1
                  exact ⟨cell, g1, g2, by rw [hcls]; exact g3⟩
                rw [hA2] at hmet hpre hblind
                cases i with
                | invokevirtual idx =>
                  have hlen : len = 3 := hlen
                  subst hlen
                  obtain ⟨hlink, hdesc⟩ := hw.2 M' hGM
                  have cw : CallB R s args M.1.cls idx M'.1 M'.2.1 M'.2.2.1 M'.2.2.2.1 (ab_ws M') (ab_rm d' h h') (h'.1 - h.1) (h'.2.1 - h.2.1) r2 := callB_of r2 hts hgood rfl rfl rfl (hts _ okM.1.2.1) (hts _ hlink) ⟨okM.1.2.2.1, okM.1.2.2.2.1, hdesc⟩ hroom
                  refine ab_call (va_runV (As := As.map (ab_v b z)) (rest := rest.map (ab_v b z)) (C.1 |> fun q => ⟨q, C.2.1, C.2.2.1, C.2.2.2.1, hts⟩) hmet ⟨cw, hts _ hinst, hts _ hsel⟩ ⟨hblind, hrecv, hpre⟩ rfl hn hl.1 hstk (lv_room hcat2) hd hmc) hS hgo
                | invokestatic idx =>
                  have h9 : r0 = 9 := h9
                  rcases hw with ⟨hw, -⟩ | ⟨hw, -⟩ | ⟨hw, -⟩
                  · have hw : r0 = 8 := hw
                    omega
                  · have hw : r0 = 1 := hw
                    omega
                  · have hw : r0 = 3 := hw
                    omega
                | invokespecial idx =>
                  have h9 : r0 = 9 := h9
                  rcases hw with ⟨hw, -⟩ | ⟨hw, -⟩ | ⟨hw, -⟩
                  · have hw : r0 = 5 := hw
                    omega
                  · have hw : r0 = 2 := hw
                    omega
                  · have hw : r0 = 4 := hw
                    omega
                | _ => cases hkd
      · -- System.arraycopy
        rename_i hk4
        split at hx
        · cases hx
        · rename_i d'
          split at hx
          · cases hx
          · rename_i s' hs
            obtain ⟨pc', lv', st', h'⟩ := s'
            have mono := ab_ex_mono n hx
            exact ab_sp_ok C ok (fun _ => ⟨by omega, by omega⟩) hs hR hS hl hc hq (Nat.le_trans mono.1 hcF) (Nat.le_trans mono.2 hqF) (fun H locs ls cells slots hR hS hl hc hq => ih p e R s m args below meth c Q M b z D dA L xs (d' + 1) pc' lv' st' h' r hF H locs ls cells slots c0 s0 C hM hx hd1 hd2 hR hS hl hc hq hcF hqF kr)
      · -- Object.<init>
        rename_i hk0 hk1 hk2 hk4
        split at hx
        · cases hx
        · rename_i d'
          split at hx
          · cases hx
          · rename_i r0' hoi
            obtain ⟨i, len, r0, r1, r2, cst, ix⟩ := it
            obtain ⟨hd, hlen, hw⟩ := ok
            unfold ab_oi at hoi
            split at hoi
            · rename_i a rst
              split at hoi
              · rename_i hcat
                cases hoi
                have hw5 : ∃ idx, i = .invokespecial idx ∧ r0 = 5 := by
                  cases i with
                  | invokespecial idx =>
                    refine ⟨idx, rfl, ?_⟩
                    by_cases h5 : r0 = 5
                    · exact h5
                    · exact absurd (show ab_kd (.invokespecial idx, len, r0, r1, r2, cst, ix) = 2 from if_neg h5) (fun q => hk2 q)
                  | ireturn => exact absurd rfl hk1
                  | lreturn => exact absurd rfl hk1
                  | return_ => exact absurd rfl hk1
                  | invokevirtual idx => exact absurd rfl hk2
                  | invokestatic idx =>
                    by_cases h8 : r0 = 8
                    · exact absurd (show ab_kd (.invokestatic idx, len, r0, r1, r2, cst, ix) = 4 from if_pos h8) (fun q => hk4 q)
                    · exact absurd (show ab_kd (.invokestatic idx, len, r0, r1, r2, cst, ix) = 2 from if_neg h8) (fun q => hk2 q)
                  | _ => exact absurd rfl hk0
                obtain ⟨idx, rfl, h5⟩ := hw5
                subst h5
                have hlen : len = 3 := hlen
                subst hlen
                have hlink : Cond.methodLink M.1.cls idx Lib.objectInit ∈ ab_tb := by
                  rcases hw with ⟨-, hw⟩ | ⟨hw, -⟩ | ⟨hw, -⟩
                  · exact hw
                  · exact absurd (show (5 : Nat) = 2 from hw) (by decide)
                  · exact absurd (show (5 : Nat) = 4 from hw) (by decide)
                have hts := C.2.2.2.2.1
                refine W.objInit C.1 C.2.1 C.2.2.2.1 (hts _ hlink) (hts _ ab_oi_code.2) (hts _ ab_oi_code.1) rfl (by rw [C.2.2.1]; exact hl.1) (a := ab_ad b z a) (rest := r0'.map (ab_v b z)) rfl hd (by omega) ?_ ?_
                · have h8 : ((r0'.map (ab_v b z)).map fun v => v.category).sum ≤ 8 := by rw [ab_cat_map]; exact hcat
                  have h9 := lv_room (m := m) (pc := pc) (ls := ls) (rest := (Value.ref a :: r0').map (ab_v b z)) h8
                  omega
                · exact ih p e R s m args below meth c Q M b z D dA L xs (d' + 1) (pc + 3) lv r0' h r hF H locs ls cells slots c0 s0 C hM hx hd1 hd2 hR hS hl hc hq hcF hqF kr
              · cases hoi
            · cases hoi
