theorem ab_ex_mono {G : Nat → Option ab_M} : ∀ (n : Nat) {d : Nat} {M : ab_M} {pc : Nat} {lv : ab_L} {st : List Value} {h : ab_H} {r : Option Value} {hF : ab_H}, ab_ex G n d M pc lv st h = some (r, hF) → h.1 ≤ hF.1 ∧ h.2.1 ≤ hF.2.1 := by
  intro n
  induction n with
  | zero => intro d M pc lv st h r hF hx; cases hx
  | succ n ih =>
    intro d M pc lv st h r hF hx
    unfold ab_ex at hx
    split at hx
    · cases hx
    · split at hx
      · split at hx
        · cases hx
        · rename_i s' hs
          have h1 := ab_sp_mono hs
          have h2 := ih hx
          exact ⟨Nat.le_trans h1.1 h2.1, Nat.le_trans h1.2 h2.2⟩
      · unfold ab_rt at hx
        repeat' split at hx
        all_goals first | (cases hx; exact ⟨Nat.le_refl _, Nat.le_refl _⟩) | cases hx
      · split at hx
        · cases hx
        · split at hx
          · cases hx
          · split at hx
            · cases hx
            · rename_i q hq r' hr
              have h1 := ih hr
              have h2 := ih hx
              exact ⟨Nat.le_trans h1.1 h2.1, Nat.le_trans h1.2 h2.2⟩
      · split at hx
        · cases hx
        · split at hx
          · cases hx
          · rename_i s' hs
            have h1 := ab_sp_mono hs
            have h2 := ih hx
            exact ⟨Nat.le_trans h1.1 h2.1, Nat.le_trans h1.2 h2.2⟩
      · split at hx
        · cases hx
        · split at hx
          · cases hx
          · exact ih hx
theorem ab_cal_of {G : Nat → Option ab_M} {it : ab_I} {st : List Value} {h : ab_H} {M : ab_M} {A rest : List Value} (hx : ab_cal G it st h = some (M, A, rest)) : G it.2.2.2.1 = some M ∧ (lg_sl A).length ≤ M.2.2.1 ∧ (rest.map fun v => v.category).sum ≤ 8 ∧ ∃ As : List Value, As.length = it.2.2.2.2.1 ∧
    (((it.2.2.1 = 1 ∨ it.2.2.1 = 3) ∧ M.2.2.2.2.1.1 = 1 ∧ A = As ∧ st = As.reverse ++ rest) ∨ (it.2.2.1 = 0 ∧ M.2.2.2.2.1.1 = 0 ∧ ∃ a fs, A = .ref a :: As ∧ st = As.reverse ++ .ref a :: rest ∧ ab_rd h a = some (.inr (M.2.2.2.2.1.2.1, fs))) ∨ ((it.2.2.1 = 2 ∨ it.2.2.1 = 4) ∧ M.2.2.2.2.1.1 = 2 ∧ ∃ a, A = .ref a :: As ∧ st = As.reverse ++ .ref a :: rest) ∨ (it.2.2.1 = 9 ∧ M.2.2.2.2.1.1 = 3 ∧ ∃ k, (1 ≤ k ∧ k ≤ 4) ∧ A = .retAddr k :: As ∧ st = As.reverse ++ .retAddr k :: rest)) := by
  unfold ab_cal at hx
  split at hx
  · cases hx
  · rename_i M0 hM0
    split at hx
    · rename_i hlen
      have hst : st = (st.take it.2.2.2.2.1).reverse.reverse ++ st.drop it.2.2.2.2.1 := by rw [List.reverse_reverse, List.take_append_drop]
      split at hx
      · rename_i h13
        split at hx
        · rename_i hk
          cases hx
          have hcok := hk.2
          unfold ab_cok at hcok
          simp only [Bool.and_eq_true, decide_eq_true_eq] at hcok
          exact ⟨hM0, hcok.1, hcok.2, _, by rw [List.length_reverse]; exact hlen, Or.inl ⟨h13, hk.1, rfl, hst⟩⟩
        · cases hx
      · rename_i h13
        split at hx
        · rename_i a rest0 hdrop
          split at hx
          · rename_i h0
            split at hx
            · rename_i ci fs hrd
              split at hx
              · rename_i hk
                cases hx
                have hcok := hk.2.2
                unfold ab_cok at hcok
                simp only [Bool.and_eq_true, decide_eq_true_eq] at hcok
                refine ⟨hM0, hcok.1, hcok.2, _, by rw [List.length_reverse]; exact hlen, Or.inr (Or.inl ⟨h0, hk.2.1, a, fs, rfl, ?_, ?_⟩)⟩
                · rw [← hdrop]; exact hst
                · rw [hrd, hk.1]
              · cases hx
            · cases hx
          · rename_i h0
            split at hx
            · rename_i hk
              cases hx
              have hcok := hk.2.2
              unfold ab_cok at hcok
              simp only [Bool.and_eq_true, decide_eq_true_eq] at hcok
              refine ⟨hM0, hcok.1, hcok.2, _, by rw [List.length_reverse]; exact hlen, Or.inr (Or.inr (Or.inl ⟨hk.1, hk.2.1, a, rfl, ?_⟩))⟩
              rw [← hdrop]; exact hst
            · cases hx
        · rename_i k rest0 hdrop
          split at hx
          · rename_i hk
            cases hx
            have hcok := hk.2.2.2
            unfold ab_cok at hcok
            simp only [Bool.and_eq_true, decide_eq_true_eq] at hcok
            refine ⟨hM0, hcok.1, hcok.2, _, by rw [List.length_reverse]; exact hlen, Or.inr (Or.inr (Or.inr ⟨hk.1, hk.2.2.1, k, hk.2.1, rfl, ?_⟩))⟩
            rw [← hdrop]; exact hst
          · cases hx
        · cases hx
    · cases hx
def ab_Qc (b : ab_V) (z : Nat) (D : va_G) (dA : Nat → ClassId) (L : Nat) (xs : Nat → Int32) (r : Option Value) (hF : ab_H) : Array Value → State → Outcome → State → Prop := fun _ st oc t =>
  oc = .returned (r.map (ab_v b z)) ∧ ab_R b z D dA L xs hF t.heap ∧ va_F (ab_A z) st t
def ab_B (b : ab_V) (z : Nat) (D : va_G) (dA : Nat → ClassId) (L : Nat) (xs : Nat → Int32) (h : ab_H) : State → Prop := fun U => ab_X U b z D dA L xs ∧ ab_R b z D dA L xs h U.heap
def ab_rm (d : Nat) (h hF : ab_H) : Room := { frames := d, cells := hF.1 - h.1, slots := hF.2.1 - h.2.1, locals := 60 * d }
def ab_ws (M : ab_M) : List Cond := Cond.code M.1 M.2.1 M.2.2.1 M.2.2.2.1 :: ab_tb
theorem ab_O.mv {U V : State} {b : ab_V} {z : Nat} (hv : U.vm.Alike V.vm) (hr : ∀ k a, vk_R RX4 (ab_si k).1 (ab_si k).2 a U → vk_R RX4 (ab_si k).1 (ab_si k).2 a V) (hk : ∀ a : Nat, a < U.heap.size → ¬ ab_A z a → V.heap[a]? = U.heap[a]?) (h : ab_O b z U) : ab_O b z V := by
  obtain ⟨⟨a, h1, h2, h3⟩, h4, h5, h6⟩ := h
  refine ⟨⟨a, h1, (va_T.moved hv h2).kept hk, (va_Z.moved hv h3).kept hk⟩, (va_Z.moved hv h4).kept hk, (va_Z.moved hv h5).kept hk, fun k hk4 => ?_⟩
  obtain ⟨a, v, g1, g2, g3, g4, g5, g6, g7⟩ := h6 k hk4
  exact ⟨a, v, g1, g2, hr k a g3, (va_O.moved hv g4).kept hk, (va_OF.moved hv g5).kept hk, (va_OF.moved hv g6).kept hk, (va_T.moved hv g7).kept hk⟩
theorem ab_X.blind {U : State} {b : ab_V} {z : Nat} {D : va_G} {dA : Nat → ClassId} {L : Nat} {xs : Nat → Int32} (h : ab_X U b z D dA L xs) (g : JFrame) (mk : MethodId) (a : Array Value) : ab_X (U.calling g mk a) b z D dA L xs := by
  obtain ⟨h1, h2, h3, h4, h5, h6, h7⟩ := h
  exact ⟨va_K.moved (u := U) (U := U.calling g mk a) (Vm.Alike.refl U.vm) h1, fun x i y w hw => va_Nw.same (u := U) (U := U.calling g mk a) rfl rfl (h2 x i y w hw), va_AO.moved (u := U) (U := U.calling g mk a) (Vm.Alike.refl U.vm) h3, va_X.moved (u := U) (U := U.calling g mk a) (Vm.Alike.refl U.vm) h4, h5, h6, h7.mv (V := U.calling g mk a) (Vm.Alike.refl U.vm) (fun k q hq => vk_R.same (u := U) (U := U.calling g mk a) rfl hq) (fun _ _ _ => rfl)⟩
theorem ab_blind (av : List Value) (b : ab_V) (z : Nat) (D : va_G) (dA : Nat → ClassId) (L : Nat) (xs : Nat → Int32) (h : ab_H) : FrameBlind (va_Pc av (ab_B b z D dA L xs h)) := fun a U g mk q => ⟨q.1, q.2.1.blind g mk a, q.2.2⟩
theorem ab_X.to {s U : State} {H : Heap} {locs : List Loc} {b : ab_V} {z : Nat} {D : va_G} {dA : Nat → ClassId} {L : Nat} {xs : Nat → Int32} (h : ab_X s b z D dA L xs) (hS : va_S (ab_A z) s.heap H locs) (hU : U.heap = H) (hW : s.WarmedH U.vm) : ab_X U b z D dA L xs := by
  obtain ⟨h1, h2, h3, h4, h5, h6, h7⟩ := h
  refine ⟨va_K.moved hW.alike h1, fun x i y w hw => va_Nw.warmM hW (h2 x i y w hw), va_AO.moved hW.alike h3, ?_, h5, by rw [hU]; exact Nat.le_trans h6 hS.1, h7.mv hW.alike (fun k q hq => vk_R.warm hW hq) (fun q g1 g2 => by rw [hU]; exact hS.2.1 q g1 g2)⟩
  exact (va_X.moved hW.alike h4).kept (by rw [hU]; exact hS.2.1 b.1 (Nat.lt_of_lt_of_le h5 h6) (Nat.not_le.mpr h5))
theorem ab_args_map (b : ab_V) (z : Nat) : ∀ (As : List Value) (i : Nat), lv_args i (As.map (ab_v b z)) = (lv_args i As).map (ab_q b z)
  | [], _ => rfl
  | v :: r, i => by
    show (i, ab_v b z v) :: lv_args (if (ab_v b z v).category = 2 then i + 2 else i + 1) (r.map (ab_v b z)) = _
    rw [ab_v_cat, ab_args_map b z r]
    rfl
theorem ab_sl_len (b : ab_V) (z : Nat) : ∀ (As : List Value), (lg_sl (As.map (ab_v b z))).length = (lg_sl As).length
  | [] => rfl
  | v :: r => by
    have ih := ab_sl_len b z r
    unfold lg_sl at ih ⊢
    simp only [List.map_cons, List.flatMap_cons, List.length_append, ab_v_cat, ih]
    congr 1
    split <;> rfl
theorem ab_cat_map (b : ab_V) (z : Nat) (rest : List Value) : ((rest.map (ab_v b z)).map fun v => v.category).sum = (rest.map fun v => v.category).sum := by
  rw [List.map_map]
  congr 1
  exact List.map_congr_left fun v _ => ab_v_cat b z v
section ABX
variable {p : Program} {l : Launch} {e : Env} {R : Room} {s : State} {m : MethodId} {args : Array Value} {below : List Frame} {meth : Method} {c : Code} {H : Heap} {locs : List Loc} {cells slots : Nat} {Q : State → Prop}
variable {b : ab_V} {z : Nat} {D : va_G} {dA : Nat → ClassId} {L : Nat} {xs : Nat → Int32}
/-- behind a call -/
theorem ab_call {mc ms pc : Nat} {ls : Array Slot} {st0 rest : List Value} {r : Option Value} {hF : ab_H} {a : Array Value} (hr : va_Run p l e R s m args below meth c H locs cells slots mc ms (F0 m pc ls st0) rest (ab_Qc b z D dA L xs r hF a) (ab_A z)) (hS : va_S (ab_A z) s.heap H locs)
    (kk : ∀ (H1 : Heap) (locs1 : List Loc), ab_R b z D dA L xs hF H1 → va_S (ab_A z) s.heap H1 locs1 → W p l e R s m args below meth c H1 locs1 (cells + mc) (slots + ms) Q (F0 m (pc + 3) ls ((r.map (ab_v b z)).toList ++ rest))) : W p l e R s m args below meth c H locs cells slots Q (F0 m pc ls st0) := by
  intro T hT X
  obtain ⟨v, st₀, t, T', L', h0, X', hL, e1, e2, ⟨hv, hR, hz, hk⟩, st⟩ := hr T hT X
  cases hv
  rw [h0] at hz hk
  obtain ⟨t2, a1, b1⟩ := kk T'.heap (locs ++ L') (by rw [e1]; exact hR)
    ⟨Nat.le_trans hS.1 (by rw [e1]; exact hz), fun q h1 h2 => by rw [e1, hk q (Nat.lt_of_lt_of_le h1 hS.1) h2]; exact hS.2.1 q h1 h2, fun q hq => by
      rcases List.mem_append.mp hq with h | h
      · exact hS.2.2 q h
      · exact hL q h⟩ T' rfl X'
  exact ⟨t2, st t2 a1, b1⟩
end ABX
/-- the run is sound: for n steps -/
def ab_Snd (G : Nat → Option ab_M) (l : Launch) (n : Nat) : Prop := ∀ (p : Program) (e : Env) (R : Room) (s : State) (m : MethodId) (args : Array Value) (below : List Frame) (meth : Method) (c : Code) (Q : State → Prop) (M : ab_M) (b : ab_V) (z : Nat) (D : va_G) (dA : Nat → ClassId) (L : Nat) (xs : Nat → Int32) (d pc : Nat) (lv : ab_L) (st : List Value) (h : ab_H) (r : Option Value) (hF : ab_H) (H : Heap) (locs : List Loc) (ls : Array Slot) (cells slots c0 s0 : Nat),
  ab_Cx p s m args meth c M b z D dA L xs → (∀ pc it, ab_at M.2.2.2.2.2 pc = some it → ab_so G M pc it) → ab_ex G n d M pc lv st h = some (r, hF) → d ≤ R.frames → 60 * d ≤ R.locals →
  ab_R b z D dA L xs h H → va_S (ab_A z) s.heap H locs → lv_has ls M.2.2.1 (lv.map (ab_q b z)) → h.1 = c0 + cells → h.2.1 = s0 + slots → hF.1 ≤ c0 + R.cells → hF.2.1 ≤ s0 + R.slots →
  (∀ (H : Heap) (locs : List Loc) (ls : Array Slot) (cells slots pc : Nat) (it : ab_I) (st : List Value) (h : ab_H), ab_R b z D dA L xs h H → va_S (ab_A z) s.heap H locs → h.1 = c0 + cells → h.2.1 = s0 + slots → ab_so G M pc it → ab_rt M it st h = some (r, hF) → W p l e R s m args below meth c H locs cells slots Q (F0 m pc ls (st.map (ab_v b z)))) →
  W p l e R s m args below meth c H locs cells slots Q (F0 m pc ls (st.map (ab_v b z)))
theorem ab_rt_h {M : ab_M} {it : ab_I} {st : List Value} {h hF : ab_H} {r : Option Value} (hx : ab_rt M it st h = some (r, hF)) : h = hF := by
  unfold ab_rt at hx
  repeat' split at hx
  all_goals first | (cases hx; rfl) | cases hx
/-- a contract out of a walk, for a method that no row of natives stands for -/
theorem ab_ofW {l : Launch} {y : MethodName} {ws ws' : List Cond} {rm : Room} {Pc : Array Value → State → Prop} {Qc : Array Value → State → Outcome → State → Prop} {mc ms : Nat} {free : Addr → Prop} {cc : ByteArray} {maxL : Nat} {ret : Option FieldType}
    (hy : plainFor y = true) (hw : ws = Cond.code y cc maxL ret :: ws')
    (body : ∀ p e s m args below meth c s₁, BodyLoose p l y (headSpec ws rm) cc maxL ret e s m args below meth c s₁ → c.maxLocals = maxL → Pc args s →
      W p l e (headSpec ws rm).room s m args below meth c s.heap [] 0 0 (MQ below Qc args s mc ms free) (entryFrame m args maxL)) : Met l y ws rm Pc Qc mc ms free := by
  refine MetFree.of_bodySF (code := cc) (maxLocals := maxL) (ret := ret) hy ?_ ?_
  · intro args s m h hn
    obtain ⟨meth, c, h1, h2, h3, h4, h5, h6, -, -⟩ := Cond.code_spec hn (atoms_spec (ws := ws) h _ (by rw [hw]; exact List.mem_cons_self))
    exact ⟨meth, c, h1, h2, h3, h4, h5, h6⟩
  · intro p e s m args below meth c s₁ B hml hP _
    have hh0 : s₁.heap = s.heap := by rw [B.state]; rfl
    obtain ⟨t, a1, o, b1, b2, b3⟩ := body p e s m args below meth c s₁ B hml hP s₁ hh0 (Stand.of_body B)
    exact ⟨t, o, a1, b1, b2, ⟨b3.1, b3.2⟩⟩
set_option maxHeartbeats 4000000 in
/-- a run of a method is a contract -/
theorem ab_met {G : Nat → Option ab_M} {l : Launch} {n : Nat} (hn : ab_Snd G l n) {M : ab_M} (ok : ab_ok G M) {b : ab_V} {z : Nat} {D : va_G} {dA : Nat → ClassId} {L : Nat} {xs : Nat → Int32} {d : Nat} {As : List Value} {h : ab_H} {r : Option Value} {hF : ab_H} (hx : ab_ex G n d M 0 (lv_args 0 As) [] h = some (r, hF)) (hsl : (lg_sl As).length ≤ M.2.2.1) :
    Met l M.1 (ab_ws M) (ab_rm d h hF) (va_Pc (As.map (ab_v b z)) (ab_B b z D dA L xs h)) (ab_Qc b z D dA L xs r hF) (hF.1 - h.1) (hF.2.1 - h.2.1) (ab_A z) := by
  refine ab_ofW (cc := M.2.1) (maxL := M.2.2.1) (ret := M.2.2.2.1) ok.1.2.2.2.2.1 rfl ?_
  intro p e s m args below meth c s₁ B hml hv
  obtain ⟨rfl, hX, hR⟩ := hv
  have hts : ∀ w ∈ ab_ws M, w.before (As.map (ab_v b z)).toArray s = true := atoms_spec (ws := ab_ws M) B.pre
  have C : ab_Cx p s m (As.map (ab_v b z)).toArray meth c M b z D dA L xs := ⟨B.exec, B.bytes, hml, findClass_of_methodNamed B.named, fun w hw => hts w (List.mem_cons_of_mem _ hw), B.returns, B.notSynchronized, fun q => (name_of_methodNamed B.named B.method).1.trans q, hX⟩
  have hl := lv_entry (As.map (ab_v b z)) (n := M.2.2.1) (by rw [ab_sl_len]; exact hsl)
  rw [ab_args_map] at hl
  rw [lg_entry_eq]
  generalize (lg_sl (As.map (ab_v b z)) ++ List.replicate (M.2.2.1 - (lg_sl (As.map (ab_v b z))).length) Slot.unset).toArray = ls at hl ⊢
  have mono := ab_ex_mono n hx
  refine hn p e _ s m _ below meth c _ M b z D dA L xs d 0 (lv_args 0 As) [] h r hF s.heap [] ls 0 0 h.1 h.2.1 C ok.2 hx (Nat.le_refl d) (Nat.le_refl _) hR va_S.rf hl rfl rfl ?_ ?_ ?_
  · show hF.1 ≤ h.1 + (hF.1 - h.1); omega
  · show hF.2.1 ≤ h.2.1 + (hF.2.1 - h.2.1); omega
  · intro H locs ls cells slots pc it st h2 hR hS hc hq hso hrt
    have hh := ab_rt_h hrt
    subst hh
    have k1 : h2.1 - h.1 = cells := by omega
    have k2 : h2.2.1 - h.2.1 = slots := by omega
    rw [k1, k2]
    obtain ⟨i, len, r0, r1, r2, cst, ix⟩ := it
    obtain ⟨hd, hlen, -⟩ := hso
    unfold ab_rt at hrt
    split at hrt
    · rename_i hi
      have hi : i = .ireturn := hi
      subst hi
      have hlen : len = 1 := hlen
      subst hlen
      split at hrt
      · rename_i v
        split at hrt
        · rename_i ty hty
          split at hrt
          · rename_i hnar
            cases hrt
            exact W.zret C.1 C.2.1 (C.2.2.2.2.2.1.trans hty) hnar (fun t ht hW => ⟨rfl, by rw [ht]; exact hR, hS.F ht⟩) hS.2.2 hd C.2.2.2.2.2.2.1
          · cases hrt
        · cases hrt
      · cases hrt
    · rename_i hi
      have hi : i = .lreturn := hi
      subst hi
      have hlen : len = 1 := hlen
      subst hlen
      split at hrt
      · rename_i v
        split at hrt
        · rename_i hty
          cases hrt
          exact W.lret C.1 C.2.1 (C.2.2.2.2.2.1.trans hty) (fun t ht hW => ⟨rfl, by rw [ht]; exact hR, hS.F ht⟩) hS.2.2 hd C.2.2.2.2.2.2.1
        · cases hrt
      · cases hrt
    · rename_i hi
      have hi : i = .return_ := hi
      subst hi
      have hlen : len = 1 := hlen
      subst hlen
      split at hrt
      · split at hrt
        · rename_i hty
          cases hrt
          exact W.vret C.1 C.2.1 (C.2.2.2.2.2.1.trans hty) (fun t ht hW => ⟨rfl, by rw [ht]; exact hR, hS.F ht⟩) hS.2.2 hd C.2.2.2.2.2.2.1
        · cases hrt
      · cases hrt
    · cases hrt
