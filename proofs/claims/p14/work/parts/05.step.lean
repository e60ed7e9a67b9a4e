/-! ===== what the abstract machine's words mean on the machine ===== -/
/-- the script's address, and the addresses of what lies outside -/
abbrev ab_V : Type := Nat × (Nat → Option Nat)
def ab_ad (b : ab_V) (z i : Nat) : Nat := if i = 0 then b.1 else z + (i - 1)
def ab_v (b : ab_V) (z : Nat) (v : Value) : Value := match v with
  | .ref i => .ref (ab_ad b z i)
  | .retAddr k => va_rf (b.2 k)
  | v => v
def ab_q (b : ab_V) (z : Nat) (q : Nat × Value) : Nat × Value := (q.1, ab_v b z q.2)
def ab_e (b : ab_V) (z : Nat) (dA : Nat → ClassId) (x : ab_E) : va_E := match x with
  | .inl (t, n, .inl f) => .inl (dA t, n, .inl f)
  | .inl (t, n, .inr (.inl f)) => .inl (dA t, n, .inr (.inl f))
  | .inl (t, n, .inr (.inr f)) => .inl (dA t, n, .inr (.inr (.inr (.inr (fun j => (f j).map (ab_ad b z))))))
  | .inr (ci, fs) => .inr (ci, fs.map (ab_v b z))
def ab_tys (dA : Nat → ClassId) : List (ClassId × FieldType) := [(dA 0, .int), (dA 1, .byte), (dA 2, .long), (dA 3, .boolean), (dA 4, .object RX6)]
def ab_R (b : ab_V) (z : Nat) (D : va_G) (dA : Nat → ClassId) (L : Nat) (xs : Nat → Int32) (h : ab_H) (H : Heap) : Prop :=
  H.size + 1 = z + h.1 ∧ 0 < h.1 ∧ h.2.2 0 = .inl (0, L, .inl xs) ∧ ∀ i, 0 < i → i < h.1 → va_at D ab_cl (ab_ad b z i, ab_e b z dA (h.2.2 i)) H
def ab_Nw (s : State) : Prop := ∀ (a : String) (i : Nat) (x : MethodName) (h : String), Cond.methodLinkNest a i x h ∈ lw_tbl → va_Nw (.methodLinkNest a i x h) s
abbrev ab_A (z : Nat) : Nat → Prop := fun q => z ≤ q
def ab_si (k : Nat) : Nat × String := match k with
  | 0 => (46, "in")
  | 1 => (56, "out")
  | 2 => (58, "inner")
  | _ => (60, "place")
/-- what lies outside the heap, at a method's entry -/
def ab_O (b : ab_V) (z : Nat) (s : State) : Prop :=
  (∃ a, b.2 0 = some a ∧ va_T .long a 6 (fun j => .long (ab_hi j)) (ab_A z) s s.heap ∧ va_Z RX8 "HIGH" "[J" (.ref a) (ab_A z) s s.heap) ∧ va_Z "java/lang/String" "COMPACT_STRINGS" "Z" (.int 1) (ab_A z) s s.heap ∧ va_Z "jdk/internal/util/Preconditions" "SIOOBE_FORMATTER" "Ljava/util/function/BiFunction;" (va_rf (b.2 9)) (ab_A z) s s.heap ∧
  ∀ k : Nat, k < 4 → ∃ a v, b.2 (k + 1) = some a ∧ b.2 (k + 11) = some v ∧ vk_R RX4 (ab_si k).1 (ab_si k).2 a s ∧ va_O "java/lang/String" a (ab_A z) s s.heap ∧ va_OF "java/lang/String" "coder" "B" (.int 0) a (ab_A z) s s.heap ∧ va_OF "java/lang/String" "value" "[B" (.ref v) a (ab_A z) s s.heap ∧ va_T .byte v (ab_xt k).length (fun j => .int ((ab_xt k).getD j 0)) (ab_A z) s s.heap
def ab_X (s : State) (b : ab_V) (z : Nat) (D : va_G) (dA : Nat → ClassId) (L : Nat) (xs : Nat → Int32) : Prop :=
  va_K D ab_cl (ab_tys dA) s ∧ ab_Nw s ∧ va_AO RX6 s ∧ va_X b.1 L xs s s.heap ∧ b.1 < z ∧ z ≤ s.heap.size ∧ ab_O b z s
def ab_Cx (p : Program) (s : State) (m : MethodId) (args : Array Value) (meth : Method) (c : Code) (M : ab_M) (b : ab_V) (z : Nat) (D : va_G) (dA : Nat → ClassId) (L : Nat) (xs : Nat → Int32) : Prop :=
  p.tables.exec = Jvm.exec ∧ c.code = M.2.1 ∧ c.maxLocals = M.2.2.1 ∧ s.vm.findClass M.1.cls = some m.cls ∧ (∀ w ∈ ab_tb, w.before args s = true) ∧ meth.sig.returnType = M.2.2.2.1 ∧ meth.locks = false ∧ (M.1.name = "<init>" → meth.name = "<init>") ∧ ab_X s b z D dA L xs
theorem ab_v_cat (b : ab_V) (z : Nat) (v : Value) : (ab_v b z v).category = v.category := by
  cases v with
  | retAddr k =>
    show (va_rf (b.2 k)).category = 1
    cases b.2 k <;> rfl
  | _ => rfl
theorem ab_ad_pos {b : ab_V} {z i : Nat} (h : 0 < i) : ab_ad b z i = z + (i - 1) := by unfold ab_ad; rw [if_neg (by omega)]
theorem ab_ad_inj {b : ab_V} {z i j : Nat} (hi : 0 < i) (hj : 0 < j) (h : ab_ad b z i = ab_ad b z j) : i = j := by
  rw [ab_ad_pos hi, ab_ad_pos hj] at h; omega
theorem ab_s1_map (b : ab_V) (z i : Nat) (v : Value) (lv : ab_L) : (i, ab_v b z v) :: (lv.map (ab_q b z)).filter (fun q => !(q.1 == i) && !(q.1 + 1 == i && q.2.category == 2)) = (ab_s1 i v lv).map (ab_q b z) := by
  unfold ab_s1
  rw [List.map_cons, List.filter_map]
  congr 2
  congr 1
  funext q
  simp only [Function.comp, ab_q, ab_v_cat]
theorem ab_s2_map (b : ab_V) (z i : Nat) (v : Value) (lv : ab_L) : (i, ab_v b z v) :: (lv.map (ab_q b z)).filter (fun q => !(q.1 == i) && (!(q.1 == i + 1) && !(q.1 + 1 == i && q.2.category == 2))) = (ab_s2 i v lv).map (ab_q b z) := by
  unfold ab_s2
  rw [List.map_cons, List.filter_map]
  congr 2
  congr 1
  funext q
  simp only [Function.comp, ab_q, ab_v_cat]
theorem ab_lk_mem : ∀ {lv : ab_L} {i : Nat} {v : Value}, ab_lk lv i = some v → (i, v) ∈ lv
  | [], _, _, h => by cases h
  | q :: r, i, v, h => by
    unfold ab_lk at h
    by_cases hq : q.1 = i
    · rw [if_pos hq] at h
      cases h
      subst hq
      exact List.mem_cons_self
    · rw [if_neg hq] at h
      exact List.mem_cons_of_mem _ (ab_lk_mem h)
theorem ab_lk_at {b : ab_V} {z nL : Nat} {ls : Array Slot} {lv : ab_L} {i : Nat} {v : Value} (hl : lv_has ls nL (lv.map (ab_q b z))) (h : ab_lk lv i = some v) : ls[i]? = some (.val (ab_v b z v)) :=
  hl.2.2 (i, ab_v b z v) (List.mem_map.mpr ⟨(i, v), ab_lk_mem h, rfl⟩)
theorem ab_in_of {i : Int32} {n : Nat} (h : ab_in i n = true) : vp_in i n := by
  unfold ab_in at h
  unfold vp_in
  simpa using h
theorem ab_rd_of {h : ab_H} {a : Nat} {e : ab_E} (q : ab_rd h a = some e) : a < h.1 ∧ h.2.2 a = e := by
  unfold ab_rd at q
  by_cases ha : a < h.1
  · rw [if_pos ha] at q; exact ⟨ha, Option.some.inj q⟩
  · rw [if_neg ha] at q; cases q
theorem ab_one {D : va_G} {cl : List vw_C} {q : Nat × va_E} {H : Heap} (h : va_at D cl q H) : va_P D cl [q] H := fun k x hx => by
  have hz : k < 1 := (List.getElem?_eq_some_iff.mp hx).1
  rw [show k = 0 by omega] at hx
  cases hx
  exact h
theorem ab_R.pos {b : ab_V} {z : Nat} {D : va_G} {dA : Nat → ClassId} {L : Nat} {xs : Nat → Int32} {h : ab_H} {H : Heap} (hR : ab_R b z D dA L xs h H) {a : Nat} {x : Nat × List Value} (hx : h.2.2 a = .inr x) : 0 < a := by
  rcases Nat.eq_zero_or_pos a with h0 | h0
  · subst h0; rw [hR.2.2.1] at hx; cases hx
  · exact h0
/-- a cell is written: the others stay -/
theorem ab_R.wr {b : ab_V} {z : Nat} {D : va_G} {dA : Nat → ClassId} {L : Nat} {xs : Nat → Int32} {h : ab_H} {H H1 : Heap} (hR : ab_R b z D dA L xs h H) {a : Nat} (ha : 0 < a) {x : ab_E} (hz : H1.size = H.size) (ho : ∀ q : Nat, q ≠ ab_ad b z a → H1[q]? = H[q]?) (he : va_at D ab_cl (ab_ad b z a, ab_e b z dA x) H1) : ab_R b z D dA L xs (ab_wr h a x) H1 := by
  obtain ⟨h1, h2, h3, h4⟩ := hR
  refine ⟨by rw [hz]; exact h1, h2, ?_, fun i hi hj => ?_⟩
  · show va_up h.2.2 a x 0 = _
    rw [va_up_ne _ _ (by omega)]
    exact h3
  · show va_at D ab_cl (ab_ad b z i, ab_e b z dA (va_up h.2.2 a x i)) H1
    by_cases hia : i = a
    · subst hia
      rw [va_up_self]
      exact he
    · rw [va_up_ne _ _ hia]
      exact (h4 i hi hj).kept (ho _ (fun q => hia (ab_ad_inj hi ha q)))
/-- a cell is made -/
theorem ab_R.nw {b : ab_V} {z : Nat} {D : va_G} {dA : Nat → ClassId} {L : Nat} {xs : Nat → Int32} {h : ab_H} {H H1 : Heap} (hR : ab_R b z D dA L xs h H) {n : Nat} {x : ab_E} (hz : H1.size = H.size + 1) (ho : ∀ q : Nat, q < H.size → H1[q]? = H[q]?) (he : va_at D ab_cl (H.size, ab_e b z dA x) H1) : ab_R b z D dA L xs (ab_nw h n x) H1 := by
  obtain ⟨h1, h2, h3, h4⟩ := hR
  refine ⟨by show H1.size + 1 = z + (h.1 + 1); omega, Nat.succ_pos _, ?_, fun i hi hj => ?_⟩
  · show va_up h.2.2 h.1 x 0 = _
    rw [va_up_ne _ _ (by omega)]
    exact h3
  · show va_at D ab_cl (ab_ad b z i, ab_e b z dA (va_up h.2.2 h.1 x i)) H1
    have hj' : i < h.1 + 1 := hj
    by_cases hia : i = h.1
    · subst hia
      rw [va_up_self, ab_ad_pos hi, show z + (h.1 - 1) = H.size by omega]
      exact he
    · rw [va_up_ne _ _ hia]
      have := h4 i hi (by omega)
      exact this.kept (ho _ this.lt)
theorem ab_fit_of {b : ab_V} {z : Nat} {ty : FieldType} {v : Value} (h : ab_fit ty v = true) : narrow ty (ab_v b z v) = ab_v b z v ∧ fits ty (ab_v b z v) = true := by
  unfold ab_fit at h
  simp only [Bool.and_eq_true, decide_eq_true_eq] at h
  obtain ⟨h1, h2⟩ := h
  cases v with
  | retAddr k => exact absurd h2 (by cases ty <;> simp [fits])
  | ref a =>
    refine ⟨?_, ?_⟩
    · cases ty <;> first | rfl | (simp [fits] at h2)
    · cases ty <;> first | rfl | (simp [fits] at h2)
  | _ => exact ⟨h1, h2⟩
theorem ab_tys_at {dA : Nat → ClassId} : (ab_tys dA)[0]? = some (dA 0, .int) ∧ (ab_tys dA)[1]? = some (dA 1, .byte) ∧ (ab_tys dA)[2]? = some (dA 2, .long) ∧ (ab_tys dA)[3]? = some (dA 3, .boolean) ∧ (ab_tys dA)[4]? = some (dA 4, .object RX6) := ⟨rfl, rfl, rfl, rfl, rfl⟩
theorem ab_tys_lt {dA : Nat → ClassId} {t : Nat} (ht : t < 5) : ∃ ty, (ab_tys dA)[t]? = some (dA t, ty) := by
  rcases (show t = 0 ∨ t = 1 ∨ t = 2 ∨ t = 3 ∨ t = 4 by omega) with rfl | rfl | rfl | rfl | rfl
  · exact ⟨_, rfl⟩
  · exact ⟨_, rfl⟩
  · exact ⟨_, rfl⟩
  · exact ⟨_, rfl⟩
  · exact ⟨_, rfl⟩
theorem ab_S_put {z : Nat} {H0 H H1 : Heap} {locs : List Loc} {a k : Nat} (h : va_S (ab_A z) H0 H locs) (hz : H1.size = H.size) (ho : ∀ q : Nat, q ≠ a → H1[q]? = H[q]?) (ha : z ≤ a) : va_S (ab_A z) H0 H1 (locs ++ [⟨a, k⟩]) := h.put hz ho ha
theorem ab_S_push {z : Nat} {H0 H H1 : Heap} {locs : List Loc} (h : va_S (ab_A z) H0 H locs) (hz : H1.size = H.size + 1) (ho : ∀ q : Nat, q < H.size → H1[q]? = H[q]?) : va_S (ab_A z) H0 H1 locs :=
  ⟨Nat.le_trans h.1 (by omega), fun q h1 h2 => (ho q (Nat.lt_of_lt_of_le h1 h.1)).trans (h.2.1 q h1 h2), h.2.2⟩
section ABS
variable {p : Program} {l : Launch} {e : Env} {R : Room} {s : State} {m : MethodId} {args : Array Value} {below : List Frame} {meth : Method} {c : Code} {H : Heap} {locs : List Loc} {cells slots : Nat} {Q : State → Prop}
variable {M : ab_M} {b : ab_V} {z : Nat} {D : va_G} {dA : Nat → ClassId} {L : Nat} {xs : Nat → Int32} {pc pc' : Nat} {ls : Array Slot} {lv lv' : ab_L} {st st' : List Value} {h h' : ab_H} {c0 s0 : Nat}
/-- what a step's end gives -/
def ab_KK (p : Program) (l : Launch) (e : Env) (R : Room) (s : State) (m : MethodId) (args : Array Value) (below : List Frame) (meth : Method) (c : Code) (Q : State → Prop) (nL : Nat) (b : ab_V) (z : Nat) (D : va_G) (dA : Nat → ClassId) (L : Nat) (xs : Nat → Int32) (c0 s0 pc : Nat) (lv : ab_L) (st : List Value) (h : ab_H) : Prop :=
  ∀ (H : Heap) (locs : List Loc) (ls : Array Slot) (cells slots : Nat), ab_R b z D dA L xs h H → va_S (ab_A z) s.heap H locs → lv_has ls nL (lv.map (ab_q b z)) → h.1 = c0 + cells → h.2.1 = s0 + slots →
    W p l e R s m args below meth c H locs cells slots Q (F0 m pc ls (st.map (ab_v b z)))

theorem ab_o_iconst (C : ab_Cx p s m args meth c M b z D dA L xs) {n : Int} (hd : decode M.2.1 pc = .ok (.iconst n, 1)) (hs : ab_k 1 pc (.int (Int32.ofInt n)) lv st h = some (pc', lv', st', h')) (hR : ab_R b z D dA L xs h H) (hS : va_S (ab_A z) s.heap H locs) (hl : lv_has ls M.2.2.1 (lv.map (ab_q b z))) (hc : h.1 = c0 + cells) (hq : h.2.1 = s0 + slots) (kk : ab_KK p l e R s m args below meth c Q M.2.2.1 b z D dA L xs c0 s0 pc' lv' st' h') : W p l e R s m args below meth c H locs cells slots Q (F0 m pc ls (st.map (ab_v b z))) := by
  cases hs
  exact lv_iconst C.1 C.2.1 hd rfl (kk _ _ _ _ _ hR hS hl hc hq)
theorem ab_o_bipush (C : ab_Cx p s m args meth c M b z D dA L xs) {n : Int} (hd : decode M.2.1 pc = .ok (.bipush n, 2)) (hs : ab_k 2 pc (.int (Int8.ofInt n).toInt32) lv st h = some (pc', lv', st', h')) (hR : ab_R b z D dA L xs h H) (hS : va_S (ab_A z) s.heap H locs) (hl : lv_has ls M.2.2.1 (lv.map (ab_q b z))) (hc : h.1 = c0 + cells) (hq : h.2.1 = s0 + slots) (kk : ab_KK p l e R s m args below meth c Q M.2.2.1 b z D dA L xs c0 s0 pc' lv' st' h') : W p l e R s m args below meth c H locs cells slots Q (F0 m pc ls (st.map (ab_v b z))) := by
  cases hs
  exact lv_bipush C.1 C.2.1 hd rfl (kk _ _ _ _ _ hR hS hl hc hq)
theorem ab_o_sipush (C : ab_Cx p s m args meth c M b z D dA L xs) {n : Int} (hd : decode M.2.1 pc = .ok (.sipush n, 3)) (hs : ab_k 3 pc (.int (Int16.ofInt n).toInt32) lv st h = some (pc', lv', st', h')) (hR : ab_R b z D dA L xs h H) (hS : va_S (ab_A z) s.heap H locs) (hl : lv_has ls M.2.2.1 (lv.map (ab_q b z))) (hc : h.1 = c0 + cells) (hq : h.2.1 = s0 + slots) (kk : ab_KK p l e R s m args below meth c Q M.2.2.1 b z D dA L xs c0 s0 pc' lv' st' h') : W p l e R s m args below meth c H locs cells slots Q (F0 m pc ls (st.map (ab_v b z))) := by
  cases hs
  exact lv_sipush C.1 C.2.1 hd rfl (kk _ _ _ _ _ hR hS hl hc hq)
theorem ab_o_lconst (C : ab_Cx p s m args meth c M b z D dA L xs) {n : Fin 2} (hd : decode M.2.1 pc = .ok (.lconst n, 1)) (hs : ab_k 1 pc (.long (Int64.ofNat (n : Nat))) lv st h = some (pc', lv', st', h')) (hR : ab_R b z D dA L xs h H) (hS : va_S (ab_A z) s.heap H locs) (hl : lv_has ls M.2.2.1 (lv.map (ab_q b z))) (hc : h.1 = c0 + cells) (hq : h.2.1 = s0 + slots) (kk : ab_KK p l e R s m args below meth c Q M.2.2.1 b z D dA L xs c0 s0 pc' lv' st' h') : W p l e R s m args below meth c H locs cells slots Q (F0 m pc ls (st.map (ab_v b z))) := by
  cases hs
  exact lv_lconst C.1 C.2.1 hd rfl (kk _ _ _ _ _ hR hS hl hc hq)
theorem ab_o_ldc (C : ab_Cx p s m args meth c M b z D dA L xs) {i : Nat} {n : Int32} (hd : decode M.2.1 pc = .ok (.ldc i, 2)) (hw : Cond.constant M.1.cls i n ∈ ab_tb) (hs : ab_k 2 pc (.int n) lv st h = some (pc', lv', st', h')) (hR : ab_R b z D dA L xs h H) (hS : va_S (ab_A z) s.heap H locs) (hl : lv_has ls M.2.2.1 (lv.map (ab_q b z))) (hc : h.1 = c0 + cells) (hq : h.2.1 = s0 + slots) (kk : ab_KK p l e R s m args below meth c Q M.2.2.1 b z D dA L xs c0 s0 pc' lv' st' h') : W p l e R s m args below meth c H locs cells slots Q (F0 m pc ls (st.map (ab_v b z))) := by
  cases hs
  exact lv_ldc C.1 C.2.1 C.2.2.2.1 (C.2.2.2.2.1 _ hw) hd (kk _ _ _ _ _ hR hS hl hc hq)
theorem ab_o_ldc_w (C : ab_Cx p s m args meth c M b z D dA L xs) {i : Nat} {n : Int32} (hd : decode M.2.1 pc = .ok (.ldc_w i, 3)) (hw : Cond.constant M.1.cls i n ∈ ab_tb) (hs : ab_k 3 pc (.int n) lv st h = some (pc', lv', st', h')) (hR : ab_R b z D dA L xs h H) (hS : va_S (ab_A z) s.heap H locs) (hl : lv_has ls M.2.2.1 (lv.map (ab_q b z))) (hc : h.1 = c0 + cells) (hq : h.2.1 = s0 + slots) (kk : ab_KK p l e R s m args below meth c Q M.2.2.1 b z D dA L xs c0 s0 pc' lv' st' h') : W p l e R s m args below meth c H locs cells slots Q (F0 m pc ls (st.map (ab_v b z))) := by
  cases hs
  exact lv_ldcw C.1 C.2.1 C.2.2.2.1 (C.2.2.2.2.1 _ hw) hd (kk _ _ _ _ _ hR hS hl hc hq)
theorem ab_o_ldc2_w (C : ab_Cx p s m args meth c M b z D dA L xs) {i : Nat} {n : Int64} (hd : decode M.2.1 pc = .ok (.ldc2_w i, 3)) (hw : Cond.constantLong M.1.cls i n ∈ ab_tb) (hs : ab_k 3 pc (.long n) lv st h = some (pc', lv', st', h')) (hR : ab_R b z D dA L xs h H) (hS : va_S (ab_A z) s.heap H locs) (hl : lv_has ls M.2.2.1 (lv.map (ab_q b z))) (hc : h.1 = c0 + cells) (hq : h.2.1 = s0 + slots) (kk : ab_KK p l e R s m args below meth c Q M.2.2.1 b z D dA L xs c0 s0 pc' lv' st' h') : W p l e R s m args below meth c H locs cells slots Q (F0 m pc ls (st.map (ab_v b z))) := by
  cases hs
  exact lv_ldc2 C.1 C.2.1 C.2.2.2.1 (C.2.2.2.2.1 _ hw) hd (kk _ _ _ _ _ hR hS hl hc hq)
theorem ab_o_iload_n (C : ab_Cx p s m args meth c M b z D dA L xs) {k : Fin 4} (hd : decode M.2.1 pc = .ok (.iload_n k, 1)) (hs : ab_ild k.val 1 pc lv st h = some (pc', lv', st', h')) (hR : ab_R b z D dA L xs h H) (hS : va_S (ab_A z) s.heap H locs) (hl : lv_has ls M.2.2.1 (lv.map (ab_q b z))) (hc : h.1 = c0 + cells) (hq : h.2.1 = s0 + slots) (kk : ab_KK p l e R s m args below meth c Q M.2.2.1 b z D dA L xs c0 s0 pc' lv' st' h') : W p l e R s m args below meth c H locs cells slots Q (F0 m pc ls (st.map (ab_v b z))) := by
  unfold ab_ild at hs
  split at hs
  · rename_i x hx
    cases hs
    exact lv_iload_n C.1 C.2.1 hd rfl (ab_lk_at hl hx) (kk _ _ _ _ _ hR hS hl hc hq)
  · cases hs
theorem ab_o_iload (C : ab_Cx p s m args meth c M b z D dA L xs) {k : Nat} (hd : decode M.2.1 pc = .ok (.iload k, 2)) (hs : ab_ild k 2 pc lv st h = some (pc', lv', st', h')) (hR : ab_R b z D dA L xs h H) (hS : va_S (ab_A z) s.heap H locs) (hl : lv_has ls M.2.2.1 (lv.map (ab_q b z))) (hc : h.1 = c0 + cells) (hq : h.2.1 = s0 + slots) (kk : ab_KK p l e R s m args below meth c Q M.2.2.1 b z D dA L xs c0 s0 pc' lv' st' h') : W p l e R s m args below meth c H locs cells slots Q (F0 m pc ls (st.map (ab_v b z))) := by
  unfold ab_ild at hs
  split at hs
  · rename_i x hx
    cases hs
    exact lv_iload C.1 C.2.1 hd (ab_lk_at hl hx) (kk _ _ _ _ _ hR hS hl hc hq)
  · cases hs
theorem ab_o_lload_n (C : ab_Cx p s m args meth c M b z D dA L xs) {k : Fin 4} (hd : decode M.2.1 pc = .ok (.lload_n k, 1)) (hs : ab_lld k.val 1 pc lv st h = some (pc', lv', st', h')) (hR : ab_R b z D dA L xs h H) (hS : va_S (ab_A z) s.heap H locs) (hl : lv_has ls M.2.2.1 (lv.map (ab_q b z))) (hc : h.1 = c0 + cells) (hq : h.2.1 = s0 + slots) (kk : ab_KK p l e R s m args below meth c Q M.2.2.1 b z D dA L xs c0 s0 pc' lv' st' h') : W p l e R s m args below meth c H locs cells slots Q (F0 m pc ls (st.map (ab_v b z))) := by
  unfold ab_lld at hs
  split at hs
  · rename_i x hx
    cases hs
    exact lv_lload_n C.1 C.2.1 hd rfl (ab_lk_at hl hx) (kk _ _ _ _ _ hR hS hl hc hq)
  · cases hs
theorem ab_o_lload (C : ab_Cx p s m args meth c M b z D dA L xs) {k : Nat} (hd : decode M.2.1 pc = .ok (.lload k, 2)) (hs : ab_lld k 2 pc lv st h = some (pc', lv', st', h')) (hR : ab_R b z D dA L xs h H) (hS : va_S (ab_A z) s.heap H locs) (hl : lv_has ls M.2.2.1 (lv.map (ab_q b z))) (hc : h.1 = c0 + cells) (hq : h.2.1 = s0 + slots) (kk : ab_KK p l e R s m args below meth c Q M.2.2.1 b z D dA L xs c0 s0 pc' lv' st' h') : W p l e R s m args below meth c H locs cells slots Q (F0 m pc ls (st.map (ab_v b z))) := by
  unfold ab_lld at hs
  split at hs
  · rename_i x hx
    cases hs
    exact lv_lload C.1 C.2.1 hd (ab_lk_at hl hx) (kk _ _ _ _ _ hR hS hl hc hq)
  · cases hs
theorem ab_o_aload_n (C : ab_Cx p s m args meth c M b z D dA L xs) {k : Fin 4} (hd : decode M.2.1 pc = .ok (.aload_n k, 1)) (hs : ab_ald k.val 1 pc lv st h = some (pc', lv', st', h')) (hR : ab_R b z D dA L xs h H) (hS : va_S (ab_A z) s.heap H locs) (hl : lv_has ls M.2.2.1 (lv.map (ab_q b z))) (hc : h.1 = c0 + cells) (hq : h.2.1 = s0 + slots) (kk : ab_KK p l e R s m args below meth c Q M.2.2.1 b z D dA L xs c0 s0 pc' lv' st' h') : W p l e R s m args below meth c H locs cells slots Q (F0 m pc ls (st.map (ab_v b z))) := by
  unfold ab_ald at hs
  split at hs
  · rename_i x hx
    cases hs
    exact lv_aload_n C.1 C.2.1 hd rfl (ab_lk_at hl hx) (kk _ _ _ _ _ hR hS hl hc hq)
  · rename_i x hx
    cases hs
    have hk := kk _ _ _ _ _ hR hS hl hc hq
    have ha := ab_lk_at hl hx
    have ev : ab_v b z (.retAddr x) = va_rf (b.2 x) := rfl
    rw [ev] at ha
    have hk2 : W p l e R s m args below meth c H locs cells slots Q (F0 m (pc + 1) ls (va_rf (b.2 x) :: st.map (ab_v b z))) := hk
    cases ho : b.2 x with
    | none =>
      rw [ho] at ha hk2
      exact lv_aload_nN C.1 C.2.1 hd rfl ha hk2
    | some a =>
      rw [ho] at ha hk2
      exact lv_aload_n C.1 C.2.1 hd rfl ha hk2
  · cases hs
theorem ab_o_aload (C : ab_Cx p s m args meth c M b z D dA L xs) {k : Nat} (hd : decode M.2.1 pc = .ok (.aload k, 2)) (hs : ab_ald k 2 pc lv st h = some (pc', lv', st', h')) (hR : ab_R b z D dA L xs h H) (hS : va_S (ab_A z) s.heap H locs) (hl : lv_has ls M.2.2.1 (lv.map (ab_q b z))) (hc : h.1 = c0 + cells) (hq : h.2.1 = s0 + slots) (kk : ab_KK p l e R s m args below meth c Q M.2.2.1 b z D dA L xs c0 s0 pc' lv' st' h') : W p l e R s m args below meth c H locs cells slots Q (F0 m pc ls (st.map (ab_v b z))) := by
  unfold ab_ald at hs
  split at hs
  · rename_i x hx
    cases hs
    exact lv_aload C.1 C.2.1 hd (ab_lk_at hl hx) (kk _ _ _ _ _ hR hS hl hc hq)
  · rename_i x hx
    cases hs
    have hk := kk _ _ _ _ _ hR hS hl hc hq
    have ha := ab_lk_at hl hx
    have ev : ab_v b z (.retAddr x) = va_rf (b.2 x) := rfl
    rw [ev] at ha
    have hk2 : W p l e R s m args below meth c H locs cells slots Q (F0 m (pc + 2) ls (va_rf (b.2 x) :: st.map (ab_v b z))) := hk
    cases ho : b.2 x with
    | none =>
      rw [ho] at ha hk2
      exact lv_aloadN C.1 C.2.1 hd ha hk2
    | some a =>
      rw [ho] at ha hk2
      exact lv_aload C.1 C.2.1 hd ha hk2
  · cases hs
theorem ab_o_istore_n (C : ab_Cx p s m args meth c M b z D dA L xs) {k : Fin 4} (hd : decode M.2.1 pc = .ok (.istore_n k, 1)) (hs : ab_ist M.2.2.1 k.val 1 pc lv st h = some (pc', lv', st', h')) (hR : ab_R b z D dA L xs h H) (hS : va_S (ab_A z) s.heap H locs) (hl : lv_has ls M.2.2.1 (lv.map (ab_q b z))) (hc : h.1 = c0 + cells) (hq : h.2.1 = s0 + slots) (kk : ab_KK p l e R s m args below meth c Q M.2.2.1 b z D dA L xs c0 s0 pc' lv' st' h') : W p l e R s m args below meth c H locs cells slots Q (F0 m pc ls (st.map (ab_v b z))) := by
  unfold ab_ist at hs
  split at hs
  · rename_i x r
    split at hs
    · rename_i hi
      cases hs
      exact lv_istore_n (lv' := (ab_s1 k.val (.int x) lv).map (ab_q b z)) C.1 C.2.1 hd rfl hl hi (ab_s1_map b z k.val (.int x) lv) (fun ls hl => kk _ _ _ _ _ hR hS hl hc hq)
    · cases hs
  · cases hs
theorem ab_o_istore (C : ab_Cx p s m args meth c M b z D dA L xs) {k : Nat} (hd : decode M.2.1 pc = .ok (.istore k, 2)) (hs : ab_ist M.2.2.1 k 2 pc lv st h = some (pc', lv', st', h')) (hR : ab_R b z D dA L xs h H) (hS : va_S (ab_A z) s.heap H locs) (hl : lv_has ls M.2.2.1 (lv.map (ab_q b z))) (hc : h.1 = c0 + cells) (hq : h.2.1 = s0 + slots) (kk : ab_KK p l e R s m args below meth c Q M.2.2.1 b z D dA L xs c0 s0 pc' lv' st' h') : W p l e R s m args below meth c H locs cells slots Q (F0 m pc ls (st.map (ab_v b z))) := by
  unfold ab_ist at hs
  split at hs
  · rename_i x r
    split at hs
    · rename_i hi
      cases hs
      exact lv_istore (lv' := (ab_s1 k (.int x) lv).map (ab_q b z)) C.1 C.2.1 hd hl hi (ab_s1_map b z k (.int x) lv) (fun ls hl => kk _ _ _ _ _ hR hS hl hc hq)
    · cases hs
  · cases hs
theorem ab_o_lstore_n (C : ab_Cx p s m args meth c M b z D dA L xs) {k : Fin 4} (hd : decode M.2.1 pc = .ok (.lstore_n k, 1)) (hs : ab_lst M.2.2.1 k.val 1 pc lv st h = some (pc', lv', st', h')) (hR : ab_R b z D dA L xs h H) (hS : va_S (ab_A z) s.heap H locs) (hl : lv_has ls M.2.2.1 (lv.map (ab_q b z))) (hc : h.1 = c0 + cells) (hq : h.2.1 = s0 + slots) (kk : ab_KK p l e R s m args below meth c Q M.2.2.1 b z D dA L xs c0 s0 pc' lv' st' h') : W p l e R s m args below meth c H locs cells slots Q (F0 m pc ls (st.map (ab_v b z))) := by
  unfold ab_lst at hs
  split at hs
  · rename_i x r
    split at hs
    · rename_i hi
      cases hs
      exact lv_lstore_n (lv' := (ab_s2 k.val (.long x) lv).map (ab_q b z)) C.1 C.2.1 hd rfl hl hi (ab_s2_map b z k.val (.long x) lv) (fun ls hl => kk _ _ _ _ _ hR hS hl hc hq)
    · cases hs
  · cases hs
theorem ab_o_lstore (C : ab_Cx p s m args meth c M b z D dA L xs) {k : Nat} (hd : decode M.2.1 pc = .ok (.lstore k, 2)) (hs : ab_lst M.2.2.1 k 2 pc lv st h = some (pc', lv', st', h')) (hR : ab_R b z D dA L xs h H) (hS : va_S (ab_A z) s.heap H locs) (hl : lv_has ls M.2.2.1 (lv.map (ab_q b z))) (hc : h.1 = c0 + cells) (hq : h.2.1 = s0 + slots) (kk : ab_KK p l e R s m args below meth c Q M.2.2.1 b z D dA L xs c0 s0 pc' lv' st' h') : W p l e R s m args below meth c H locs cells slots Q (F0 m pc ls (st.map (ab_v b z))) := by
  unfold ab_lst at hs
  split at hs
  · rename_i x r
    split at hs
    · rename_i hi
      cases hs
      exact lv_lstore (lv' := (ab_s2 k (.long x) lv).map (ab_q b z)) C.1 C.2.1 hd hl hi (ab_s2_map b z k (.long x) lv) (fun ls hl => kk _ _ _ _ _ hR hS hl hc hq)
    · cases hs
  · cases hs
theorem ab_o_astore_n (C : ab_Cx p s m args meth c M b z D dA L xs) {k : Fin 4} (hd : decode M.2.1 pc = .ok (.astore_n k, 1)) (hs : ab_ast M.2.2.1 k.val 1 pc lv st h = some (pc', lv', st', h')) (hR : ab_R b z D dA L xs h H) (hS : va_S (ab_A z) s.heap H locs) (hl : lv_has ls M.2.2.1 (lv.map (ab_q b z))) (hc : h.1 = c0 + cells) (hq : h.2.1 = s0 + slots) (kk : ab_KK p l e R s m args below meth c Q M.2.2.1 b z D dA L xs c0 s0 pc' lv' st' h') : W p l e R s m args below meth c H locs cells slots Q (F0 m pc ls (st.map (ab_v b z))) := by
  unfold ab_ast at hs
  split at hs
  · rename_i x r
    split at hs
    · rename_i hi
      cases hs
      exact lv_astore_n (lv' := (ab_s1 k.val (.ref x) lv).map (ab_q b z)) C.1 C.2.1 hd rfl hl hi (ab_s1_map b z k.val (.ref x) lv) (fun ls hl => kk _ _ _ _ _ hR hS hl hc hq)
    · cases hs
  · cases hs
theorem ab_o_astore (C : ab_Cx p s m args meth c M b z D dA L xs) {k : Nat} (hd : decode M.2.1 pc = .ok (.astore k, 2)) (hs : ab_ast M.2.2.1 k 2 pc lv st h = some (pc', lv', st', h')) (hR : ab_R b z D dA L xs h H) (hS : va_S (ab_A z) s.heap H locs) (hl : lv_has ls M.2.2.1 (lv.map (ab_q b z))) (hc : h.1 = c0 + cells) (hq : h.2.1 = s0 + slots) (kk : ab_KK p l e R s m args below meth c Q M.2.2.1 b z D dA L xs c0 s0 pc' lv' st' h') : W p l e R s m args below meth c H locs cells slots Q (F0 m pc ls (st.map (ab_v b z))) := by
  unfold ab_ast at hs
  split at hs
  · rename_i x r
    split at hs
    · rename_i hi
      cases hs
      exact lv_astore (lv' := (ab_s1 k (.ref x) lv).map (ab_q b z)) C.1 C.2.1 hd hl hi (ab_s1_map b z k (.ref x) lv) (fun ls hl => kk _ _ _ _ _ hR hS hl hc hq)
    · cases hs
  · cases hs
theorem ab_o_iinc (C : ab_Cx p s m args meth c M b z D dA L xs) {i : Nat} {n : Int} (hd : decode M.2.1 pc = .ok (.iinc i n, 3)) (hs : ab_inc M.2.2.1 i n pc lv st h = some (pc', lv', st', h')) (hR : ab_R b z D dA L xs h H) (hS : va_S (ab_A z) s.heap H locs) (hl : lv_has ls M.2.2.1 (lv.map (ab_q b z))) (hc : h.1 = c0 + cells) (hq : h.2.1 = s0 + slots) (kk : ab_KK p l e R s m args below meth c Q M.2.2.1 b z D dA L xs c0 s0 pc' lv' st' h') : W p l e R s m args below meth c H locs cells slots Q (F0 m pc ls (st.map (ab_v b z))) := by
  unfold ab_inc at hs
  split at hs
  · rename_i x hx
    split at hs
    · rename_i hi
      cases hs
      obtain ⟨k, hk⟩ := List.getElem?_of_mem (List.mem_map.mpr ⟨(i, .int x), ab_lk_mem hx, rfl⟩ : ab_q b z (i, .int x) ∈ lv.map (ab_q b z))
      exact lv_iinc (lv' := (ab_s1 i (.int (x + Int32.ofInt n)) lv).map (ab_q b z)) C.1 C.2.1 hd hl hk rfl hi (ab_s1_map b z i (.int (x + Int32.ofInt n)) lv) (fun ls hl => kk _ _ _ _ _ hR hS hl hc hq)
    · cases hs
  · cases hs
theorem ab_o_iadd (C : ab_Cx p s m args meth c M b z D dA L xs) (hd : decode M.2.1 pc = .ok (.iadd, 1)) (hs : ab_b2 (fun x y => x + y) pc lv st h = some (pc', lv', st', h')) (hR : ab_R b z D dA L xs h H) (hS : va_S (ab_A z) s.heap H locs) (hl : lv_has ls M.2.2.1 (lv.map (ab_q b z))) (hc : h.1 = c0 + cells) (hq : h.2.1 = s0 + slots) (kk : ab_KK p l e R s m args below meth c Q M.2.2.1 b z D dA L xs c0 s0 pc' lv' st' h') : W p l e R s m args below meth c H locs cells slots Q (F0 m pc ls (st.map (ab_v b z))) := by
  unfold ab_b2 at hs
  split at hs
  · cases hs
    exact lv_iadd C.1 C.2.1 hd (kk _ _ _ _ _ hR hS hl hc hq)
  · cases hs
theorem ab_o_isub (C : ab_Cx p s m args meth c M b z D dA L xs) (hd : decode M.2.1 pc = .ok (.isub, 1)) (hs : ab_b2 (fun x y => x - y) pc lv st h = some (pc', lv', st', h')) (hR : ab_R b z D dA L xs h H) (hS : va_S (ab_A z) s.heap H locs) (hl : lv_has ls M.2.2.1 (lv.map (ab_q b z))) (hc : h.1 = c0 + cells) (hq : h.2.1 = s0 + slots) (kk : ab_KK p l e R s m args below meth c Q M.2.2.1 b z D dA L xs c0 s0 pc' lv' st' h') : W p l e R s m args below meth c H locs cells slots Q (F0 m pc ls (st.map (ab_v b z))) := by
  unfold ab_b2 at hs
  split at hs
  · cases hs
    exact lv_isub C.1 C.2.1 hd (kk _ _ _ _ _ hR hS hl hc hq)
  · cases hs
theorem ab_o_imul (C : ab_Cx p s m args meth c M b z D dA L xs) (hd : decode M.2.1 pc = .ok (.imul, 1)) (hs : ab_b2 (fun x y => x * y) pc lv st h = some (pc', lv', st', h')) (hR : ab_R b z D dA L xs h H) (hS : va_S (ab_A z) s.heap H locs) (hl : lv_has ls M.2.2.1 (lv.map (ab_q b z))) (hc : h.1 = c0 + cells) (hq : h.2.1 = s0 + slots) (kk : ab_KK p l e R s m args below meth c Q M.2.2.1 b z D dA L xs c0 s0 pc' lv' st' h') : W p l e R s m args below meth c H locs cells slots Q (F0 m pc ls (st.map (ab_v b z))) := by
  unfold ab_b2 at hs
  split at hs
  · cases hs
    exact lv_imul C.1 C.2.1 hd (kk _ _ _ _ _ hR hS hl hc hq)
  · cases hs
theorem ab_o_iand (C : ab_Cx p s m args meth c M b z D dA L xs) (hd : decode M.2.1 pc = .ok (.iand, 1)) (hs : ab_b2 (fun x y => x &&& y) pc lv st h = some (pc', lv', st', h')) (hR : ab_R b z D dA L xs h H) (hS : va_S (ab_A z) s.heap H locs) (hl : lv_has ls M.2.2.1 (lv.map (ab_q b z))) (hc : h.1 = c0 + cells) (hq : h.2.1 = s0 + slots) (kk : ab_KK p l e R s m args below meth c Q M.2.2.1 b z D dA L xs c0 s0 pc' lv' st' h') : W p l e R s m args below meth c H locs cells slots Q (F0 m pc ls (st.map (ab_v b z))) := by
  unfold ab_b2 at hs
  split at hs
  · cases hs
    exact lv_iand C.1 C.2.1 hd (kk _ _ _ _ _ hR hS hl hc hq)
  · cases hs
theorem ab_o_ior (C : ab_Cx p s m args meth c M b z D dA L xs) (hd : decode M.2.1 pc = .ok (.ior, 1)) (hs : ab_b2 (fun x y => x ||| y) pc lv st h = some (pc', lv', st', h')) (hR : ab_R b z D dA L xs h H) (hS : va_S (ab_A z) s.heap H locs) (hl : lv_has ls M.2.2.1 (lv.map (ab_q b z))) (hc : h.1 = c0 + cells) (hq : h.2.1 = s0 + slots) (kk : ab_KK p l e R s m args below meth c Q M.2.2.1 b z D dA L xs c0 s0 pc' lv' st' h') : W p l e R s m args below meth c H locs cells slots Q (F0 m pc ls (st.map (ab_v b z))) := by
  unfold ab_b2 at hs
  split at hs
  · cases hs
    exact lv_ior C.1 C.2.1 hd (kk _ _ _ _ _ hR hS hl hc hq)
  · cases hs
theorem ab_o_ixor (C : ab_Cx p s m args meth c M b z D dA L xs) (hd : decode M.2.1 pc = .ok (.ixor, 1)) (hs : ab_b2 (fun x y => x ^^^ y) pc lv st h = some (pc', lv', st', h')) (hR : ab_R b z D dA L xs h H) (hS : va_S (ab_A z) s.heap H locs) (hl : lv_has ls M.2.2.1 (lv.map (ab_q b z))) (hc : h.1 = c0 + cells) (hq : h.2.1 = s0 + slots) (kk : ab_KK p l e R s m args below meth c Q M.2.2.1 b z D dA L xs c0 s0 pc' lv' st' h') : W p l e R s m args below meth c H locs cells slots Q (F0 m pc ls (st.map (ab_v b z))) := by
  unfold ab_b2 at hs
  split at hs
  · cases hs
    exact lv_ixor C.1 C.2.1 hd (kk _ _ _ _ _ hR hS hl hc hq)
  · cases hs
theorem ab_o_ishl (C : ab_Cx p s m args meth c M b z D dA L xs) (hd : decode M.2.1 pc = .ok (.ishl, 1)) (hs : ab_b2 (fun x y => x <<< (y &&& 31)) pc lv st h = some (pc', lv', st', h')) (hR : ab_R b z D dA L xs h H) (hS : va_S (ab_A z) s.heap H locs) (hl : lv_has ls M.2.2.1 (lv.map (ab_q b z))) (hc : h.1 = c0 + cells) (hq : h.2.1 = s0 + slots) (kk : ab_KK p l e R s m args below meth c Q M.2.2.1 b z D dA L xs c0 s0 pc' lv' st' h') : W p l e R s m args below meth c H locs cells slots Q (F0 m pc ls (st.map (ab_v b z))) := by
  unfold ab_b2 at hs
  split at hs
  · cases hs
    exact lv_ishl C.1 C.2.1 hd (kk _ _ _ _ _ hR hS hl hc hq)
  · cases hs
theorem ab_o_ishr (C : ab_Cx p s m args meth c M b z D dA L xs) (hd : decode M.2.1 pc = .ok (.ishr, 1)) (hs : ab_b2 (fun x y => x >>> (y &&& 31)) pc lv st h = some (pc', lv', st', h')) (hR : ab_R b z D dA L xs h H) (hS : va_S (ab_A z) s.heap H locs) (hl : lv_has ls M.2.2.1 (lv.map (ab_q b z))) (hc : h.1 = c0 + cells) (hq : h.2.1 = s0 + slots) (kk : ab_KK p l e R s m args below meth c Q M.2.2.1 b z D dA L xs c0 s0 pc' lv' st' h') : W p l e R s m args below meth c H locs cells slots Q (F0 m pc ls (st.map (ab_v b z))) := by
  unfold ab_b2 at hs
  split at hs
  · cases hs
    exact lv_ishr C.1 C.2.1 hd (kk _ _ _ _ _ hR hS hl hc hq)
  · cases hs
theorem ab_o_iushr (C : ab_Cx p s m args meth c M b z D dA L xs) (hd : decode M.2.1 pc = .ok (.iushr, 1)) (hs : ab_b2 (fun x y => (x.toUInt32 >>> (y.toUInt32 &&& Int32.toUInt32 31)).toInt32) pc lv st h = some (pc', lv', st', h')) (hR : ab_R b z D dA L xs h H) (hS : va_S (ab_A z) s.heap H locs) (hl : lv_has ls M.2.2.1 (lv.map (ab_q b z))) (hc : h.1 = c0 + cells) (hq : h.2.1 = s0 + slots) (kk : ab_KK p l e R s m args below meth c Q M.2.2.1 b z D dA L xs c0 s0 pc' lv' st' h') : W p l e R s m args below meth c H locs cells slots Q (F0 m pc ls (st.map (ab_v b z))) := by
  unfold ab_b2 at hs
  split at hs
  · cases hs
    exact lv_iushr C.1 C.2.1 hd rfl (kk _ _ _ _ _ hR hS hl hc hq)
  · cases hs
theorem ab_o_idiv (C : ab_Cx p s m args meth c M b z D dA L xs) (hd : decode M.2.1 pc = .ok (.idiv, 1)) (hs : ab_dv (fun x y => x / y) pc lv st h = some (pc', lv', st', h')) (hR : ab_R b z D dA L xs h H) (hS : va_S (ab_A z) s.heap H locs) (hl : lv_has ls M.2.2.1 (lv.map (ab_q b z))) (hc : h.1 = c0 + cells) (hq : h.2.1 = s0 + slots) (kk : ab_KK p l e R s m args below meth c Q M.2.2.1 b z D dA L xs c0 s0 pc' lv' st' h') : W p l e R s m args below meth c H locs cells slots Q (F0 m pc ls (st.map (ab_v b z))) := by
  unfold ab_dv at hs
  split at hs
  · split at hs
    · cases hs
    · rename_i hne
      cases hs
      exact lv_idiv C.1 C.2.1 hd hne (kk _ _ _ _ _ hR hS hl hc hq)
  · cases hs
theorem ab_o_irem (C : ab_Cx p s m args meth c M b z D dA L xs) (hd : decode M.2.1 pc = .ok (.irem, 1)) (hs : ab_dv (fun x y => x - x / y * y) pc lv st h = some (pc', lv', st', h')) (hR : ab_R b z D dA L xs h H) (hS : va_S (ab_A z) s.heap H locs) (hl : lv_has ls M.2.2.1 (lv.map (ab_q b z))) (hc : h.1 = c0 + cells) (hq : h.2.1 = s0 + slots) (kk : ab_KK p l e R s m args below meth c Q M.2.2.1 b z D dA L xs c0 s0 pc' lv' st' h') : W p l e R s m args below meth c H locs cells slots Q (F0 m pc ls (st.map (ab_v b z))) := by
  unfold ab_dv at hs
  split at hs
  · split at hs
    · cases hs
    · rename_i hne
      cases hs
      exact lv_irem C.1 C.2.1 hd hne (kk _ _ _ _ _ hR hS hl hc hq)
  · cases hs
theorem ab_o_ineg (C : ab_Cx p s m args meth c M b z D dA L xs) (hd : decode M.2.1 pc = .ok (.ineg, 1)) (hs : ab_b1 (fun x => -x) pc lv st h = some (pc', lv', st', h')) (hR : ab_R b z D dA L xs h H) (hS : va_S (ab_A z) s.heap H locs) (hl : lv_has ls M.2.2.1 (lv.map (ab_q b z))) (hc : h.1 = c0 + cells) (hq : h.2.1 = s0 + slots) (kk : ab_KK p l e R s m args below meth c Q M.2.2.1 b z D dA L xs c0 s0 pc' lv' st' h') : W p l e R s m args below meth c H locs cells slots Q (F0 m pc ls (st.map (ab_v b z))) := by
  unfold ab_b1 at hs
  split at hs
  · cases hs
    exact lv_ineg C.1 C.2.1 hd (kk _ _ _ _ _ hR hS hl hc hq)
  · cases hs
theorem ab_o_i2b (C : ab_Cx p s m args meth c M b z D dA L xs) (hd : decode M.2.1 pc = .ok (.i2b, 1)) (hs : ab_b1 (fun x => x.toInt8.toInt32) pc lv st h = some (pc', lv', st', h')) (hR : ab_R b z D dA L xs h H) (hS : va_S (ab_A z) s.heap H locs) (hl : lv_has ls M.2.2.1 (lv.map (ab_q b z))) (hc : h.1 = c0 + cells) (hq : h.2.1 = s0 + slots) (kk : ab_KK p l e R s m args below meth c Q M.2.2.1 b z D dA L xs c0 s0 pc' lv' st' h') : W p l e R s m args below meth c H locs cells slots Q (F0 m pc ls (st.map (ab_v b z))) := by
  unfold ab_b1 at hs
  split at hs
  · cases hs
    exact lv_i2b C.1 C.2.1 hd rfl (kk _ _ _ _ _ hR hS hl hc hq)
  · cases hs
theorem ab_o_i2s (C : ab_Cx p s m args meth c M b z D dA L xs) (hd : decode M.2.1 pc = .ok (.i2s, 1)) (hs : ab_b1 (fun x => x.toInt16.toInt32) pc lv st h = some (pc', lv', st', h')) (hR : ab_R b z D dA L xs h H) (hS : va_S (ab_A z) s.heap H locs) (hl : lv_has ls M.2.2.1 (lv.map (ab_q b z))) (hc : h.1 = c0 + cells) (hq : h.2.1 = s0 + slots) (kk : ab_KK p l e R s m args below meth c Q M.2.2.1 b z D dA L xs c0 s0 pc' lv' st' h') : W p l e R s m args below meth c H locs cells slots Q (F0 m pc ls (st.map (ab_v b z))) := by
  unfold ab_b1 at hs
  split at hs
  · cases hs
    exact lv_i2s C.1 C.2.1 hd rfl (kk _ _ _ _ _ hR hS hl hc hq)
  · cases hs
theorem ab_o_i2c (C : ab_Cx p s m args meth c M b z D dA L xs) (hd : decode M.2.1 pc = .ok (.i2c, 1)) (hs : ab_b1 (fun x => (x.toUInt32 % 65536).toInt32) pc lv st h = some (pc', lv', st', h')) (hR : ab_R b z D dA L xs h H) (hS : va_S (ab_A z) s.heap H locs) (hl : lv_has ls M.2.2.1 (lv.map (ab_q b z))) (hc : h.1 = c0 + cells) (hq : h.2.1 = s0 + slots) (kk : ab_KK p l e R s m args below meth c Q M.2.2.1 b z D dA L xs c0 s0 pc' lv' st' h') : W p l e R s m args below meth c H locs cells slots Q (F0 m pc ls (st.map (ab_v b z))) := by
  unfold ab_b1 at hs
  split at hs
  · cases hs
    exact lv_i2c C.1 C.2.1 hd rfl (kk _ _ _ _ _ hR hS hl hc hq)
  · cases hs
theorem ab_o_i2l (C : ab_Cx p s m args meth c M b z D dA L xs) (hd : decode M.2.1 pc = .ok (.i2l, 1)) (hs : ab_il pc lv st h = some (pc', lv', st', h')) (hR : ab_R b z D dA L xs h H) (hS : va_S (ab_A z) s.heap H locs) (hl : lv_has ls M.2.2.1 (lv.map (ab_q b z))) (hc : h.1 = c0 + cells) (hq : h.2.1 = s0 + slots) (kk : ab_KK p l e R s m args below meth c Q M.2.2.1 b z D dA L xs c0 s0 pc' lv' st' h') : W p l e R s m args below meth c H locs cells slots Q (F0 m pc ls (st.map (ab_v b z))) := by
  unfold ab_il at hs
  split at hs
  · cases hs
    exact lv_i2l C.1 C.2.1 hd rfl (kk _ _ _ _ _ hR hS hl hc hq)
  · cases hs
theorem ab_o_l2i (C : ab_Cx p s m args meth c M b z D dA L xs) (hd : decode M.2.1 pc = .ok (.l2i, 1)) (hs : ab_li pc lv st h = some (pc', lv', st', h')) (hR : ab_R b z D dA L xs h H) (hS : va_S (ab_A z) s.heap H locs) (hl : lv_has ls M.2.2.1 (lv.map (ab_q b z))) (hc : h.1 = c0 + cells) (hq : h.2.1 = s0 + slots) (kk : ab_KK p l e R s m args below meth c Q M.2.2.1 b z D dA L xs c0 s0 pc' lv' st' h') : W p l e R s m args below meth c H locs cells slots Q (F0 m pc ls (st.map (ab_v b z))) := by
  unfold ab_li at hs
  split at hs
  · cases hs
    exact lv_l2i C.1 C.2.1 hd rfl (kk _ _ _ _ _ hR hS hl hc hq)
  · cases hs
theorem ab_o_ladd (C : ab_Cx p s m args meth c M b z D dA L xs) (hd : decode M.2.1 pc = .ok (.ladd, 1)) (hs : ab_l2 (fun x y => x + y) pc lv st h = some (pc', lv', st', h')) (hR : ab_R b z D dA L xs h H) (hS : va_S (ab_A z) s.heap H locs) (hl : lv_has ls M.2.2.1 (lv.map (ab_q b z))) (hc : h.1 = c0 + cells) (hq : h.2.1 = s0 + slots) (kk : ab_KK p l e R s m args below meth c Q M.2.2.1 b z D dA L xs c0 s0 pc' lv' st' h') : W p l e R s m args below meth c H locs cells slots Q (F0 m pc ls (st.map (ab_v b z))) := by
  unfold ab_l2 at hs
  split at hs
  · cases hs
    exact lv_ladd C.1 C.2.1 hd (kk _ _ _ _ _ hR hS hl hc hq)
  · cases hs
theorem ab_o_lsub (C : ab_Cx p s m args meth c M b z D dA L xs) (hd : decode M.2.1 pc = .ok (.lsub, 1)) (hs : ab_l2 (fun x y => x - y) pc lv st h = some (pc', lv', st', h')) (hR : ab_R b z D dA L xs h H) (hS : va_S (ab_A z) s.heap H locs) (hl : lv_has ls M.2.2.1 (lv.map (ab_q b z))) (hc : h.1 = c0 + cells) (hq : h.2.1 = s0 + slots) (kk : ab_KK p l e R s m args below meth c Q M.2.2.1 b z D dA L xs c0 s0 pc' lv' st' h') : W p l e R s m args below meth c H locs cells slots Q (F0 m pc ls (st.map (ab_v b z))) := by
  unfold ab_l2 at hs
  split at hs
  · cases hs
    exact lv_lsub C.1 C.2.1 hd (kk _ _ _ _ _ hR hS hl hc hq)
  · cases hs
theorem ab_o_lmul (C : ab_Cx p s m args meth c M b z D dA L xs) (hd : decode M.2.1 pc = .ok (.lmul, 1)) (hs : ab_l2 (fun x y => x * y) pc lv st h = some (pc', lv', st', h')) (hR : ab_R b z D dA L xs h H) (hS : va_S (ab_A z) s.heap H locs) (hl : lv_has ls M.2.2.1 (lv.map (ab_q b z))) (hc : h.1 = c0 + cells) (hq : h.2.1 = s0 + slots) (kk : ab_KK p l e R s m args below meth c Q M.2.2.1 b z D dA L xs c0 s0 pc' lv' st' h') : W p l e R s m args below meth c H locs cells slots Q (F0 m pc ls (st.map (ab_v b z))) := by
  unfold ab_l2 at hs
  split at hs
  · cases hs
    exact lv_lmul C.1 C.2.1 hd (kk _ _ _ _ _ hR hS hl hc hq)
  · cases hs
theorem ab_o_land (C : ab_Cx p s m args meth c M b z D dA L xs) (hd : decode M.2.1 pc = .ok (.land, 1)) (hs : ab_l2 (fun x y => x &&& y) pc lv st h = some (pc', lv', st', h')) (hR : ab_R b z D dA L xs h H) (hS : va_S (ab_A z) s.heap H locs) (hl : lv_has ls M.2.2.1 (lv.map (ab_q b z))) (hc : h.1 = c0 + cells) (hq : h.2.1 = s0 + slots) (kk : ab_KK p l e R s m args below meth c Q M.2.2.1 b z D dA L xs c0 s0 pc' lv' st' h') : W p l e R s m args below meth c H locs cells slots Q (F0 m pc ls (st.map (ab_v b z))) := by
  unfold ab_l2 at hs
  split at hs
  · cases hs
    exact lv_land C.1 C.2.1 hd (kk _ _ _ _ _ hR hS hl hc hq)
  · cases hs
theorem ab_o_lor (C : ab_Cx p s m args meth c M b z D dA L xs) (hd : decode M.2.1 pc = .ok (.lor, 1)) (hs : ab_l2 (fun x y => x ||| y) pc lv st h = some (pc', lv', st', h')) (hR : ab_R b z D dA L xs h H) (hS : va_S (ab_A z) s.heap H locs) (hl : lv_has ls M.2.2.1 (lv.map (ab_q b z))) (hc : h.1 = c0 + cells) (hq : h.2.1 = s0 + slots) (kk : ab_KK p l e R s m args below meth c Q M.2.2.1 b z D dA L xs c0 s0 pc' lv' st' h') : W p l e R s m args below meth c H locs cells slots Q (F0 m pc ls (st.map (ab_v b z))) := by
  unfold ab_l2 at hs
  split at hs
  · cases hs
    exact lv_lor C.1 C.2.1 hd (kk _ _ _ _ _ hR hS hl hc hq)
  · cases hs
theorem ab_o_lxor (C : ab_Cx p s m args meth c M b z D dA L xs) (hd : decode M.2.1 pc = .ok (.lxor, 1)) (hs : ab_l2 (fun x y => x ^^^ y) pc lv st h = some (pc', lv', st', h')) (hR : ab_R b z D dA L xs h H) (hS : va_S (ab_A z) s.heap H locs) (hl : lv_has ls M.2.2.1 (lv.map (ab_q b z))) (hc : h.1 = c0 + cells) (hq : h.2.1 = s0 + slots) (kk : ab_KK p l e R s m args below meth c Q M.2.2.1 b z D dA L xs c0 s0 pc' lv' st' h') : W p l e R s m args below meth c H locs cells slots Q (F0 m pc ls (st.map (ab_v b z))) := by
  unfold ab_l2 at hs
  split at hs
  · cases hs
    exact lv_lxor C.1 C.2.1 hd (kk _ _ _ _ _ hR hS hl hc hq)
  · cases hs
theorem ab_o_lcmp (C : ab_Cx p s m args meth c M b z D dA L xs) (hd : decode M.2.1 pc = .ok (.lcmp, 1)) (hs : ab_lc pc lv st h = some (pc', lv', st', h')) (hR : ab_R b z D dA L xs h H) (hS : va_S (ab_A z) s.heap H locs) (hl : lv_has ls M.2.2.1 (lv.map (ab_q b z))) (hc : h.1 = c0 + cells) (hq : h.2.1 = s0 + slots) (kk : ab_KK p l e R s m args below meth c Q M.2.2.1 b z D dA L xs c0 s0 pc' lv' st' h') : W p l e R s m args below meth c H locs cells slots Q (F0 m pc ls (st.map (ab_v b z))) := by
  unfold ab_lc at hs
  split at hs
  · cases hs
    exact W.lcmp C.1 C.2.1 hd (kk _ _ _ _ _ hR hS hl hc hq)
  · cases hs
theorem ab_o_lshl (C : ab_Cx p s m args meth c M b z D dA L xs) (hd : decode M.2.1 pc = .ok (.lshl, 1)) (hs : ab_ls (fun x y => x <<< (y.toInt64 &&& 63)) pc lv st h = some (pc', lv', st', h')) (hR : ab_R b z D dA L xs h H) (hS : va_S (ab_A z) s.heap H locs) (hl : lv_has ls M.2.2.1 (lv.map (ab_q b z))) (hc : h.1 = c0 + cells) (hq : h.2.1 = s0 + slots) (kk : ab_KK p l e R s m args below meth c Q M.2.2.1 b z D dA L xs c0 s0 pc' lv' st' h') : W p l e R s m args below meth c H locs cells slots Q (F0 m pc ls (st.map (ab_v b z))) := by
  unfold ab_ls at hs
  split at hs
  · cases hs
    exact lv_lshl C.1 C.2.1 hd rfl (kk _ _ _ _ _ hR hS hl hc hq)
  · cases hs
theorem ab_o_lshr (C : ab_Cx p s m args meth c M b z D dA L xs) (hd : decode M.2.1 pc = .ok (.lshr, 1)) (hs : ab_ls (fun x y => x >>> (y.toInt64 &&& 63)) pc lv st h = some (pc', lv', st', h')) (hR : ab_R b z D dA L xs h H) (hS : va_S (ab_A z) s.heap H locs) (hl : lv_has ls M.2.2.1 (lv.map (ab_q b z))) (hc : h.1 = c0 + cells) (hq : h.2.1 = s0 + slots) (kk : ab_KK p l e R s m args below meth c Q M.2.2.1 b z D dA L xs c0 s0 pc' lv' st' h') : W p l e R s m args below meth c H locs cells slots Q (F0 m pc ls (st.map (ab_v b z))) := by
  unfold ab_ls at hs
  split at hs
  · cases hs
    exact lv_lshr C.1 C.2.1 hd rfl (kk _ _ _ _ _ hR hS hl hc hq)
  · cases hs
theorem ab_o_lushr (C : ab_Cx p s m args meth c M b z D dA L xs) (hd : decode M.2.1 pc = .ok (.lushr, 1)) (hs : ab_ls (fun x y => (x.toUInt64 >>> (y.toInt64.toUInt64 &&& Int64.toUInt64 63)).toInt64) pc lv st h = some (pc', lv', st', h')) (hR : ab_R b z D dA L xs h H) (hS : va_S (ab_A z) s.heap H locs) (hl : lv_has ls M.2.2.1 (lv.map (ab_q b z))) (hc : h.1 = c0 + cells) (hq : h.2.1 = s0 + slots) (kk : ab_KK p l e R s m args below meth c Q M.2.2.1 b z D dA L xs c0 s0 pc' lv' st' h') : W p l e R s m args below meth c H locs cells slots Q (F0 m pc ls (st.map (ab_v b z))) := by
  unfold ab_ls at hs
  split at hs
  · cases hs
    exact lv_lushr C.1 C.2.1 hd rfl (kk _ _ _ _ _ hR hS hl hc hq)
  · cases hs
theorem ab_o_dup (C : ab_Cx p s m args meth c M b z D dA L xs) (hd : decode M.2.1 pc = .ok (.dup, 1)) (hs : ab_dup pc lv st h = some (pc', lv', st', h')) (hR : ab_R b z D dA L xs h H) (hS : va_S (ab_A z) s.heap H locs) (hl : lv_has ls M.2.2.1 (lv.map (ab_q b z))) (hc : h.1 = c0 + cells) (hq : h.2.1 = s0 + slots) (kk : ab_KK p l e R s m args below meth c Q M.2.2.1 b z D dA L xs c0 s0 pc' lv' st' h') : W p l e R s m args below meth c H locs cells slots Q (F0 m pc ls (st.map (ab_v b z))) := by
  unfold ab_dup at hs
  split at hs
  · split at hs
    · rename_i hv
      cases hs
      exact lv_dup C.1 C.2.1 hd (by rw [ab_v_cat]; exact hv) (kk _ _ _ _ _ hR hS hl hc hq)
    · cases hs
  · cases hs
theorem ab_o_pop (C : ab_Cx p s m args meth c M b z D dA L xs) (hd : decode M.2.1 pc = .ok (.pop, 1)) (hs : ab_pop pc lv st h = some (pc', lv', st', h')) (hR : ab_R b z D dA L xs h H) (hS : va_S (ab_A z) s.heap H locs) (hl : lv_has ls M.2.2.1 (lv.map (ab_q b z))) (hc : h.1 = c0 + cells) (hq : h.2.1 = s0 + slots) (kk : ab_KK p l e R s m args below meth c Q M.2.2.1 b z D dA L xs c0 s0 pc' lv' st' h') : W p l e R s m args below meth c H locs cells slots Q (F0 m pc ls (st.map (ab_v b z))) := by
  unfold ab_pop at hs
  split at hs
  · split at hs
    · rename_i hv
      cases hs
      exact lv_pop C.1 C.2.1 hd (by rw [ab_v_cat]; exact hv) (kk _ _ _ _ _ hR hS hl hc hq)
    · cases hs
  · cases hs
theorem ab_o_dup_x1 (C : ab_Cx p s m args meth c M b z D dA L xs) (hd : decode M.2.1 pc = .ok (.dup_x1, 1)) (hs : ab_dx1 pc lv st h = some (pc', lv', st', h')) (hR : ab_R b z D dA L xs h H) (hS : va_S (ab_A z) s.heap H locs) (hl : lv_has ls M.2.2.1 (lv.map (ab_q b z))) (hc : h.1 = c0 + cells) (hq : h.2.1 = s0 + slots) (kk : ab_KK p l e R s m args below meth c Q M.2.2.1 b z D dA L xs c0 s0 pc' lv' st' h') : W p l e R s m args below meth c H locs cells slots Q (F0 m pc ls (st.map (ab_v b z))) := by
  unfold ab_dx1 at hs
  split at hs
  · split at hs
    · rename_i hv
      cases hs
      exact lv_dup_x1 C.1 C.2.1 hd (by rw [ab_v_cat]; exact hv.1) (by rw [ab_v_cat]; exact hv.2) (kk _ _ _ _ _ hR hS hl hc hq)
    · cases hs
  · cases hs
theorem ab_o_dup2 (C : ab_Cx p s m args meth c M b z D dA L xs) (hd : decode M.2.1 pc = .ok (.dup2, 1)) (hs : ab_d2 pc lv st h = some (pc', lv', st', h')) (hR : ab_R b z D dA L xs h H) (hS : va_S (ab_A z) s.heap H locs) (hl : lv_has ls M.2.2.1 (lv.map (ab_q b z))) (hc : h.1 = c0 + cells) (hq : h.2.1 = s0 + slots) (kk : ab_KK p l e R s m args below meth c Q M.2.2.1 b z D dA L xs c0 s0 pc' lv' st' h') : W p l e R s m args below meth c H locs cells slots Q (F0 m pc ls (st.map (ab_v b z))) := by
  unfold ab_d2 at hs
  split at hs
  · split at hs
    · rename_i hv
      cases hs
      exact lv_dup2_11 C.1 C.2.1 hd (by rw [ab_v_cat]; exact hv.1) (by rw [ab_v_cat]; exact hv.2) (kk _ _ _ _ _ hR hS hl hc hq)
    · cases hs
  · cases hs
theorem ab_jp_of {off : Int} (hs : ab_jp pc off lv st h = some (pc', lv', st', h')) : (pc : Int) + off = (pc' : Int) ∧ lv' = lv ∧ st' = st ∧ h' = h := by
  unfold ab_jp at hs
  split at hs
  · rename_i h0
    cases hs
    exact ⟨(Int.toNat_of_nonneg h0).symm, rfl, rfl, rfl⟩
  · cases hs
theorem ab_cd_t {cd : ClassFile.Cond} {x y : Int32} (q : ab_cd cd x y = true) : match cd with
  | .eq => x = y
  | .ne => ¬ x = y
  | .lt => x < y
  | .ge => y ≤ x
  | .gt => y < x
  | .le => x ≤ y := by cases cd <;> exact of_decide_eq_true q
theorem ab_cd_f {cd : ClassFile.Cond} {x y : Int32} (q : ¬ ab_cd cd x y = true) : match cd with
  | .eq => ¬ x = y
  | .ne => ¬ ¬ x = y
  | .lt => ¬ x < y
  | .ge => ¬ y ≤ x
  | .gt => ¬ y < x
  | .le => ¬ x ≤ y := by cases cd <;> exact fun z => q (decide_eq_true z)
theorem ab_o_goto (C : ab_Cx p s m args meth c M b z D dA L xs) {off : Int} (hd : decode M.2.1 pc = .ok (.goto off, 3)) (hs : ab_jp pc off lv st h = some (pc', lv', st', h')) (hR : ab_R b z D dA L xs h H) (hS : va_S (ab_A z) s.heap H locs) (hl : lv_has ls M.2.2.1 (lv.map (ab_q b z))) (hc : h.1 = c0 + cells) (hq : h.2.1 = s0 + slots) (kk : ab_KK p l e R s m args below meth c Q M.2.2.1 b z D dA L xs c0 s0 pc' lv' st' h') : W p l e R s m args below meth c H locs cells slots Q (F0 m pc ls (st.map (ab_v b z))) := by
  obtain ⟨ht, rfl, rfl, rfl⟩ := ab_jp_of hs
  exact lv_goto C.1 C.2.1 hd ht (kk _ _ _ _ _ hR hS hl hc hq)
theorem ab_o_if (C : ab_Cx p s m args meth c M b z D dA L xs) {cd : ClassFile.Cond} {off : Int} (hd : decode M.2.1 pc = .ok (.ifCond cd off, 3)) (hp : 0 ≤ (pc : Int) + off) (hs : ab_if cd off pc lv st h = some (pc', lv', st', h')) (hR : ab_R b z D dA L xs h H) (hS : va_S (ab_A z) s.heap H locs) (hl : lv_has ls M.2.2.1 (lv.map (ab_q b z))) (hc : h.1 = c0 + cells) (hq : h.2.1 = s0 + slots) (kk : ab_KK p l e R s m args below meth c Q M.2.2.1 b z D dA L xs c0 s0 pc' lv' st' h') : W p l e R s m args below meth c H locs cells slots Q (F0 m pc ls (st.map (ab_v b z))) := by
  have htg : (pc : Int) + off = ((((pc : Int) + off).toNat : Nat) : Int) := (Int.toNat_of_nonneg hp).symm
  unfold ab_if at hs
  split at hs
  · rename_i x r
    split at hs
    · rename_i hcd
      obtain ⟨ht, rfl, rfl, rfl⟩ := ab_jp_of hs
      have hcd := ab_cd_t hcd
      cases cd with
      | eq => exact lv_if_eq C.1 C.2.1 hd ht (fun _ => kk _ _ _ _ _ hR hS hl hc hq) (fun q => absurd hcd q)
      | ne => exact lv_if_ne C.1 C.2.1 hd ht (fun _ => kk _ _ _ _ _ hR hS hl hc hq) (fun q => absurd hcd (fun n => n q))
      | lt => exact lv_if_lt C.1 C.2.1 hd ht (fun _ => kk _ _ _ _ _ hR hS hl hc hq) (fun q => absurd hcd q)
      | ge => exact lv_if_ge C.1 C.2.1 hd ht (fun _ => kk _ _ _ _ _ hR hS hl hc hq) (fun q => absurd hcd q)
      | gt => exact lv_if_gt C.1 C.2.1 hd ht (fun _ => kk _ _ _ _ _ hR hS hl hc hq) (fun q => absurd hcd q)
      | le => exact lv_if_le C.1 C.2.1 hd ht (fun _ => kk _ _ _ _ _ hR hS hl hc hq) (fun q => absurd hcd q)
    · rename_i hcd
      cases hs
      have hcd := ab_cd_f hcd
      cases cd with
      | eq => exact lv_if_eq (tgt := ((pc : Int) + off).toNat) C.1 C.2.1 hd htg (fun q => absurd q hcd) (fun _ => kk _ _ _ _ _ hR hS hl hc hq)
      | ne => exact lv_if_ne (tgt := ((pc : Int) + off).toNat) C.1 C.2.1 hd htg (fun q => absurd q hcd) (fun _ => kk _ _ _ _ _ hR hS hl hc hq)
      | lt => exact lv_if_lt (tgt := ((pc : Int) + off).toNat) C.1 C.2.1 hd htg (fun q => absurd q hcd) (fun _ => kk _ _ _ _ _ hR hS hl hc hq)
      | ge => exact lv_if_ge (tgt := ((pc : Int) + off).toNat) C.1 C.2.1 hd htg (fun q => absurd q hcd) (fun _ => kk _ _ _ _ _ hR hS hl hc hq)
      | gt => exact lv_if_gt (tgt := ((pc : Int) + off).toNat) C.1 C.2.1 hd htg (fun q => absurd q hcd) (fun _ => kk _ _ _ _ _ hR hS hl hc hq)
      | le => exact lv_if_le (tgt := ((pc : Int) + off).toNat) C.1 C.2.1 hd htg (fun q => absurd q hcd) (fun _ => kk _ _ _ _ _ hR hS hl hc hq)
  · cases hs
theorem ab_o_ic (C : ab_Cx p s m args meth c M b z D dA L xs) {cd : ClassFile.Cond} {off : Int} (hd : decode M.2.1 pc = .ok (.if_icmp cd off, 3)) (hp : 0 ≤ (pc : Int) + off) (hs : ab_ic cd off pc lv st h = some (pc', lv', st', h')) (hR : ab_R b z D dA L xs h H) (hS : va_S (ab_A z) s.heap H locs) (hl : lv_has ls M.2.2.1 (lv.map (ab_q b z))) (hc : h.1 = c0 + cells) (hq : h.2.1 = s0 + slots) (kk : ab_KK p l e R s m args below meth c Q M.2.2.1 b z D dA L xs c0 s0 pc' lv' st' h') : W p l e R s m args below meth c H locs cells slots Q (F0 m pc ls (st.map (ab_v b z))) := by
  have htg : (pc : Int) + off = ((((pc : Int) + off).toNat : Nat) : Int) := (Int.toNat_of_nonneg hp).symm
  unfold ab_ic at hs
  split at hs
  · rename_i y x r
    split at hs
    · rename_i hcd
      obtain ⟨ht, rfl, rfl, rfl⟩ := ab_jp_of hs
      have hcd := ab_cd_t hcd
      cases cd with
      | eq => exact lv_icmp_eq C.1 C.2.1 hd ht (fun _ => kk _ _ _ _ _ hR hS hl hc hq) (fun q => absurd hcd q)
      | ne => exact lv_icmp_ne C.1 C.2.1 hd ht (fun _ => kk _ _ _ _ _ hR hS hl hc hq) (fun q => absurd hcd (fun n => n q))
      | lt => exact lv_icmp_lt C.1 C.2.1 hd ht (fun _ => kk _ _ _ _ _ hR hS hl hc hq) (fun q => absurd hcd q)
      | ge => exact lv_icmp_ge C.1 C.2.1 hd ht (fun _ => kk _ _ _ _ _ hR hS hl hc hq) (fun q => absurd hcd q)
      | gt => exact lv_icmp_gt C.1 C.2.1 hd ht (fun _ => kk _ _ _ _ _ hR hS hl hc hq) (fun q => absurd hcd q)
      | le => exact lv_icmp_le C.1 C.2.1 hd ht (fun _ => kk _ _ _ _ _ hR hS hl hc hq) (fun q => absurd hcd q)
    · rename_i hcd
      cases hs
      have hcd := ab_cd_f hcd
      cases cd with
      | eq => exact lv_icmp_eq (tgt := ((pc : Int) + off).toNat) C.1 C.2.1 hd htg (fun q => absurd q hcd) (fun _ => kk _ _ _ _ _ hR hS hl hc hq)
      | ne => exact lv_icmp_ne (tgt := ((pc : Int) + off).toNat) C.1 C.2.1 hd htg (fun q => absurd q hcd) (fun _ => kk _ _ _ _ _ hR hS hl hc hq)
      | lt => exact lv_icmp_lt (tgt := ((pc : Int) + off).toNat) C.1 C.2.1 hd htg (fun q => absurd q hcd) (fun _ => kk _ _ _ _ _ hR hS hl hc hq)
      | ge => exact lv_icmp_ge (tgt := ((pc : Int) + off).toNat) C.1 C.2.1 hd htg (fun q => absurd q hcd) (fun _ => kk _ _ _ _ _ hR hS hl hc hq)
      | gt => exact lv_icmp_gt (tgt := ((pc : Int) + off).toNat) C.1 C.2.1 hd htg (fun q => absurd q hcd) (fun _ => kk _ _ _ _ _ hR hS hl hc hq)
      | le => exact lv_icmp_le (tgt := ((pc : Int) + off).toNat) C.1 C.2.1 hd htg (fun q => absurd q hcd) (fun _ => kk _ _ _ _ _ hR hS hl hc hq)
  · cases hs
theorem ab_o_tsw (C : ab_Cx p s m args meth c M b z D dA L xs) {d lo hi : Int} {offs : Array Int} {len : Nat} (hd : decode M.2.1 pc = .ok (.tableswitch d lo hi offs, len)) (hs : ab_tsw d lo hi offs pc lv st h = some (pc', lv', st', h')) (hR : ab_R b z D dA L xs h H) (hS : va_S (ab_A z) s.heap H locs) (hl : lv_has ls M.2.2.1 (lv.map (ab_q b z))) (hc : h.1 = c0 + cells) (hq : h.2.1 = s0 + slots) (kk : ab_KK p l e R s m args below meth c Q M.2.2.1 b z D dA L xs c0 s0 pc' lv' st' h') : W p l e R s m args below meth c H locs cells slots Q (F0 m pc ls (st.map (ab_v b z))) := by
  unfold ab_tsw at hs
  split at hs
  · split at hs
    · rename_i hx
      obtain ⟨ht, rfl, rfl, rfl⟩ := ab_jp_of hs
      exact lv_tableOut C.1 C.2.1 hd hx ht (kk _ _ _ _ _ hR hS hl hc hq)
    · rename_i hx
      split at hs
      · rename_i off ho
        obtain ⟨ht, rfl, rfl, rfl⟩ := ab_jp_of hs
        exact lv_tableIn C.1 C.2.1 hd (fun q => hx (Or.inl q)) (fun q => hx (Or.inr q)) ho ht (kk _ _ _ _ _ hR hS hl hc hq)
      · cases hs
  · cases hs
theorem ab_o_lsw (C : ab_Cx p s m args meth c M b z D dA L xs) {d : Int} {ps : Array (Int × Int)} {len : Nat} (hd : decode M.2.1 pc = .ok (.lookupswitch d ps, len)) (hs : ab_lsw d ps pc lv st h = some (pc', lv', st', h')) (hR : ab_R b z D dA L xs h H) (hS : va_S (ab_A z) s.heap H locs) (hl : lv_has ls M.2.2.1 (lv.map (ab_q b z))) (hc : h.1 = c0 + cells) (hq : h.2.1 = s0 + slots) (kk : ab_KK p l e R s m args below meth c Q M.2.2.1 b z D dA L xs c0 s0 pc' lv' st' h') : W p l e R s m args below meth c H locs cells slots Q (F0 m pc ls (st.map (ab_v b z))) := by
  unfold ab_lsw at hs
  split at hs
  · split at hs
    · rename_i hx
      obtain ⟨ht, rfl, rfl, rfl⟩ := ab_jp_of hs
      exact lv_lookup C.1 C.2.1 hd hx rfl ht (kk _ _ _ _ _ hR hS hl hc hq)
    · cases hs
  · cases hs
theorem ab_o_get (C : ab_Cx p s m args meth c M b z D dA L xs) {i ci k N : Nat} {Cn : String} {T : u_T} (hd : decode M.2.1 pc = .ok (.getfield i, 3)) (hcl : ab_cl[ci]? = some (Cn, T, N)) (hk : k < N) (hw : Cond.fieldLink M.1.cls i (T k).1 (T k).2.1 (T k).2.2.1 ∈ ab_tb) (hs : ab_get ci k pc lv st h = some (pc', lv', st', h')) (hR : ab_R b z D dA L xs h H) (hS : va_S (ab_A z) s.heap H locs) (hl : lv_has ls M.2.2.1 (lv.map (ab_q b z))) (hc : h.1 = c0 + cells) (hq : h.2.1 = s0 + slots) (kk : ab_KK p l e R s m args below meth c Q M.2.2.1 b z D dA L xs c0 s0 pc' lv' st' h') : W p l e R s m args below meth c H locs cells slots Q (F0 m pc ls (st.map (ab_v b z))) := by
  unfold ab_get at hs
  split at hs
  · rename_i a r
    split at hs
    · rename_i cj fs ho
      split at hs
      · rename_i hcj
        subst hcj
        split at hs
        · rename_i v hv
          cases hs
          obtain ⟨ha, hx⟩ := ab_rd_of ho
          have h0 := hR.pos hx
          have hat := hR.2.2.2 a h0 ha
          rw [hx] at hat
          exact va_get (D := D) (v := ab_v b z v) C.1 C.2.1 C.2.2.2.2.1 (ab_cl_ok hcl).1 C.2.2.2.1 C.2.2.2.2.2.2.2.2.1 (ab_one hat) 0 rfl hcl k hk (C.2.2.2.2.1 _ hw) (fun _ q => q) (by show (fs.map (ab_v b z))[k]? = _; rw [List.getElem?_map, hv]; rfl) hd (kk _ _ _ _ _ hR hS hl hc hq)
        · cases hs
      · cases hs
    · cases hs
  · cases hs
theorem ab_o_ial (C : ab_Cx p s m args meth c M b z D dA L xs) (hd : decode M.2.1 pc = .ok (.iaload, 1)) (hs : ab_ial pc lv st h = some (pc', lv', st', h')) (hR : ab_R b z D dA L xs h H) (hS : va_S (ab_A z) s.heap H locs) (hl : lv_has ls M.2.2.1 (lv.map (ab_q b z))) (hc : h.1 = c0 + cells) (hq : h.2.1 = s0 + slots) (kk : ab_KK p l e R s m args below meth c Q M.2.2.1 b z D dA L xs c0 s0 pc' lv' st' h') : W p l e R s m args below meth c H locs cells slots Q (F0 m pc ls (st.map (ab_v b z))) := by
  unfold ab_ial at hs
  split at hs
  · rename_i i a r
    split at hs
    · rename_i n f ho
      split at hs
      · rename_i hi
        cases hs
        obtain ⟨ha, hx⟩ := ab_rd_of ho
        rcases Nat.eq_zero_or_pos a with h0 | h0
        · subst h0
          rw [hR.2.2.1] at hx
          cases hx
          obtain ⟨-, -, -, hX, hbz, hzs, -⟩ := C.2.2.2.2.2.2.2.2
          exact va_sld C.1 C.2.1 hX (Nat.lt_of_lt_of_le hbz hzs) (Nat.not_le.mpr hbz) hS (ab_in_of hi) hd (kk _ _ _ _ _ hR hS hl hc hq)
        · have hat := hR.2.2.2 a h0 ha
          rw [hx] at hat
          exact va_iald C.1 C.2.1 C.2.2.2.2.2.2.2.2.1 (ab_one hat) 0 0 rfl ab_tys_at.1 (ab_in_of hi) hd (kk _ _ _ _ _ hR hS hl hc hq)
      · cases hs
    · cases hs
  · cases hs
theorem ab_o_bal (C : ab_Cx p s m args meth c M b z D dA L xs) (hd : decode M.2.1 pc = .ok (.baload, 1)) (hs : ab_bal pc lv st h = some (pc', lv', st', h')) (hR : ab_R b z D dA L xs h H) (hS : va_S (ab_A z) s.heap H locs) (hl : lv_has ls M.2.2.1 (lv.map (ab_q b z))) (hc : h.1 = c0 + cells) (hq : h.2.1 = s0 + slots) (kk : ab_KK p l e R s m args below meth c Q M.2.2.1 b z D dA L xs c0 s0 pc' lv' st' h') : W p l e R s m args below meth c H locs cells slots Q (F0 m pc ls (st.map (ab_v b z))) := by
  unfold ab_bal at hs
  split at hs
  · rename_i i a r
    split at hs
    · rename_i n f ho
      split at hs
      · rename_i hi
        cases hs
        obtain ⟨ha, hx⟩ := ab_rd_of ho
        rcases Nat.eq_zero_or_pos a with h0 | h0
        · subst h0
          rw [hR.2.2.1] at hx
          cases hx
        · have hat := hR.2.2.2 a h0 ha
          rw [hx] at hat
          exact va_bald C.1 C.2.1 C.2.2.2.2.2.2.2.2.1 (ab_one hat) 0 1 rfl ab_tys_at.2.1 (ab_in_of hi) hd (kk _ _ _ _ _ hR hS hl hc hq)
      · cases hs
    · rename_i n f ho
      split at hs
      · rename_i hi
        cases hs
        obtain ⟨ha, hx⟩ := ab_rd_of ho
        rcases Nat.eq_zero_or_pos a with h0 | h0
        · subst h0
          rw [hR.2.2.1] at hx
          cases hx
        · have hat := hR.2.2.2 a h0 ha
          rw [hx] at hat
          exact va_zald C.1 C.2.1 C.2.2.2.2.2.2.2.2.1 (ab_one hat) 0 3 rfl ab_tys_at.2.2.2.1 (ab_in_of hi) hd (kk _ _ _ _ _ hR hS hl hc hq)
      · cases hs
    · cases hs
  · cases hs
theorem ab_o_lal (C : ab_Cx p s m args meth c M b z D dA L xs) (hd : decode M.2.1 pc = .ok (.laload, 1)) (hs : ab_lal pc lv st h = some (pc', lv', st', h')) (hR : ab_R b z D dA L xs h H) (hS : va_S (ab_A z) s.heap H locs) (hl : lv_has ls M.2.2.1 (lv.map (ab_q b z))) (hc : h.1 = c0 + cells) (hq : h.2.1 = s0 + slots) (kk : ab_KK p l e R s m args below meth c Q M.2.2.1 b z D dA L xs c0 s0 pc' lv' st' h') : W p l e R s m args below meth c H locs cells slots Q (F0 m pc ls (st.map (ab_v b z))) := by
  unfold ab_lal at hs
  split at hs
  · rename_i i a r
    split at hs
    · rename_i n f ho
      split at hs
      · rename_i hi
        cases hs
        obtain ⟨ha, hx⟩ := ab_rd_of ho
        rcases Nat.eq_zero_or_pos a with h0 | h0
        · subst h0
          rw [hR.2.2.1] at hx
          cases hx
        · have hat := hR.2.2.2 a h0 ha
          rw [hx] at hat
          exact va_lald C.1 C.2.1 C.2.2.2.2.2.2.2.2.1 (ab_one hat) 0 2 rfl ab_tys_at.2.2.1 (ab_in_of hi) hd (kk _ _ _ _ _ hR hS hl hc hq)
      · cases hs
    · cases hs
  · cases hs
theorem ab_rf_map (b : ab_V) (z : Nat) (o : Option Nat) : va_rf (o.map (ab_ad b z)) = ab_v b z (va_rf o) := by cases o <;> rfl
theorem ab_o_aal (C : ab_Cx p s m args meth c M b z D dA L xs) (hd : decode M.2.1 pc = .ok (.aaload, 1)) (hs : ab_aal pc lv st h = some (pc', lv', st', h')) (hR : ab_R b z D dA L xs h H) (hS : va_S (ab_A z) s.heap H locs) (hl : lv_has ls M.2.2.1 (lv.map (ab_q b z))) (hc : h.1 = c0 + cells) (hq : h.2.1 = s0 + slots) (kk : ab_KK p l e R s m args below meth c Q M.2.2.1 b z D dA L xs c0 s0 pc' lv' st' h') : W p l e R s m args below meth c H locs cells slots Q (F0 m pc ls (st.map (ab_v b z))) := by
  unfold ab_aal at hs
  split at hs
  · rename_i i a r
    split at hs
    · rename_i n f ho
      split at hs
      · rename_i hi
        cases hs
        obtain ⟨ha, hx⟩ := ab_rd_of ho
        rcases Nat.eq_zero_or_pos a with h0 | h0
        · subst h0
          rw [hR.2.2.1] at hx
          cases hx
        · have hat := hR.2.2.2 a h0 ha
          rw [hx] at hat
          refine va_aldq C.1 C.2.1 C.2.2.2.2.2.2.2.2.1 (ab_one hat) 0 4 rfl ab_tys_at.2.2.2.2 (ab_in_of hi) hd ?_
          show W p l e R s m args below meth c H locs cells slots Q (F0 m (pc + 1) ls (va_rf ((f i.toNatClampNeg).map (ab_ad b z)) :: r.map (ab_v b z)))
          rw [ab_rf_map]
          exact kk _ _ _ _ _ hR hS hl hc hq
      · cases hs
    · cases hs
  · cases hs
theorem ab_o_len (C : ab_Cx p s m args meth c M b z D dA L xs) (hd : decode M.2.1 pc = .ok (.arraylength, 1)) (hs : ab_len pc lv st h = some (pc', lv', st', h')) (hR : ab_R b z D dA L xs h H) (hS : va_S (ab_A z) s.heap H locs) (hl : lv_has ls M.2.2.1 (lv.map (ab_q b z))) (hc : h.1 = c0 + cells) (hq : h.2.1 = s0 + slots) (kk : ab_KK p l e R s m args below meth c Q M.2.2.1 b z D dA L xs c0 s0 pc' lv' st' h') : W p l e R s m args below meth c H locs cells slots Q (F0 m pc ls (st.map (ab_v b z))) := by
  unfold ab_len at hs
  split at hs
  · rename_i a r
    split at hs
    · rename_i t n f ho
      split at hs
      · rename_i ht
        cases hs
        obtain ⟨ha, hx⟩ := ab_rd_of ho
        rcases Nat.eq_zero_or_pos a with h0 | h0
        · subst h0
          rw [hR.2.2.1] at hx
          cases hx
          obtain ⟨-, -, -, hX, hbz, hzs, -⟩ := C.2.2.2.2.2.2.2.2
          exact va_slen C.1 C.2.1 hX (Nat.lt_of_lt_of_le hbz hzs) (Nat.not_le.mpr hbz) hS hd (kk _ _ _ _ _ hR hS hl hc hq)
        · have hat := hR.2.2.2 a h0 ha
          rw [hx] at hat
          obtain ⟨ty, hty⟩ := ab_tys_lt (dA := dA) ht
          obtain f | f | f := f
          · exact va_alen (x := (n, .inl f)) C.1 C.2.1 C.2.2.2.2.2.2.2.2.1 (ab_one hat) 0 t rfl hty rfl hd (kk _ _ _ _ _ hR hS hl hc hq)
          · exact va_alen (x := (n, .inr (.inl f))) C.1 C.2.1 C.2.2.2.2.2.2.2.2.1 (ab_one hat) 0 t rfl hty rfl hd (kk _ _ _ _ _ hR hS hl hc hq)
          · exact va_alen (x := (n, .inr (.inr (.inr (.inr (fun j => (f j).map (ab_ad b z))))))) C.1 C.2.1 C.2.2.2.2.2.2.2.2.1 (ab_one hat) 0 t rfl hty rfl hd (kk _ _ _ _ _ hR hS hl hc hq)
      · cases hs
    · cases hs
  · cases hs
end ABS
