/-! THE CLAIM OUT OF ONE WALK OF THE LAW'S BODY. Your part is whole_start (and what it stands on); all else here is the same for every law, but numbers. -/
def R_law : String := "WaitingWiresLaw"
def lw_P (b : Addr) (xs : List Int32) (args : Array Value) (s : State) : Prop := args = #[.ref b] ∧ s.IntsAt b xs ∧ xs.length ≤ 3072 ∧ (Jvm.Cond.and given_1 narrow_1).before args s = true
def lw_Q (_ : Array Value) (s : State) (o : Outcome) (t : State) : Prop := o = .returned (some (.int 1)) ∧ Framed s o t [] 600000 7302250
def lw_Z (below : List Frame) (a : Array Value) (s : State) : State → Prop := fun t => ∃ o, t.status = .running ∧ Ended t below o ∧ lw_Q a s o t
/-- the law's own end, with 1 on the stack, nothing written that was there before, its room as the claim has it -/
theorem lw_ret {p : Program} {l : Launch} {e : Env} {s : State} {m : MethodId} {below : List Frame} {meth : Method} {c : Code} {b : Nat} (hx : p.tables.exec = Jvm.exec) (hb : c.code = code) (hr : meth.sig.returnType = ret) (hlocks : meth.locks = false) {pc : Nat} {H : Heap} {ls : Array Slot} (hdg : decode code pc = .ok (.ireturn, 1)) : W p l e room_1 s m #[Value.ref b] below meth c H [] 600000 7302250 (lw_Z below #[Value.ref b] s) (F0 m pc ls [.int 1]) := by
  intro T hT X
  obtain ⟨fs, hret, hrun, hended, hW, hframe⟩ := X.leave (v := some (.int 1)) (hlocks := hlocks) (fun h => by rw [hr] at h; cases h)
  have hmeth' : T.vm.method? m = some meth := X.method'
  refine ⟨T.setFrames fs, ?_, .returned (some (.int 1)), hrun, hended, rfl, ⟨_, rfl⟩, hW, hframe⟩
  jvm_step X.here [X.here.top, hx, hb, hdg, hmeth', hr, ret, narrow_b1]
  (try refine ⟨rfl, ?_⟩); (try refine ⟨rfl, ?_⟩)
  first | (intro acts; rw [hret _ acts rfl rfl rfl]) | rw [hret _ _ rfl rfl rfl]
  exact Steps.refl _
/-- what holds at the law's entry: the machine, the code, the tables' words (any of lw_tbl by 'hts w (by decide +kernel)'), the script of L ints xs at the cell b, what the Statement gives of the start (any of its parts by flat_of_before) -/
def lw_At (p : Program) (s : State) (m : MethodId) (meth : Method) (c : Code) (b L : Nat) (xs : Nat → Int32) : Prop :=
  p.tables.exec = Jvm.exec ∧ c.code = code ∧ meth.sig.returnType = ret ∧ c.maxLocals = 4 ∧ s.vm.findClass R_law = some m.cls ∧ (∀ w ∈ lw_tbl, w.before #[Value.ref b] s = true) ∧ va_X b L xs s s.heap ∧ b < s.heap.size ∧ meth.locks = false ∧ (Jvm.Cond.and given_1 narrow_1).before #[Value.ref b] s = true
def ab_h0 (L : Nat) (xs : Nat → Int32) : ab_H := (1, 0, fun _ => .inl (0, L, .inl xs))
theorem ab_K_arr {args : Array Value} {s : State} {ty : FieldType} (h : (Cond.arrayClass ty).before args s = true) : ∃ cA : ClassId, ArrOfT s cA ty ∧ s.vm.findClass ("[" ++ ty.toString) = some cA := by
  obtain ⟨cA, kA, comp, h1, h2, h3⟩ := Cond.arrayClass_spec h
  exact ⟨cA, fun n z => ⟨fun k h => (by cases h), kA, h2, comp, h3⟩, h1⟩
theorem ab_K_ref {args : Array Value} {s : State} {C : String} (h : (Cond.arrayOver (.object C)).before args s = true) : ∃ cA : ClassId, ArrOfT s cA (.object C) ∧ va_RA s cA (.object C) := by
  obtain ⟨comp, cA, kA, h1, h2, h3, h4, h5⟩ := Cond.arrayOver_spec h
  exact ⟨cA, fun n z => ⟨fun k h => (by cases h), kA, h3, comp, h4⟩, kA, comp, h3, h4, h1, h5⟩
theorem ab_K_all {args : Array Value} {s : State} (hts : ∀ w ∈ lw_tbl, w.before args s = true) : ∃ (D : va_G) (dA : Nat → ClassId), va_K D ab_cl (ab_tys dA) s := by
  have htb : ∀ w ∈ ab_tb, w.before args s = true := fun w h => hts w (List.mem_filter.mp h).1
  have hc : ∀ k : Nat, ∃ pr : ClassId × (Nat → Nat), ∀ q : vw_C, ab_cl[k]? = some q → u_Kn s q.1 q.2.1 q.2.2 pr.1 pr.2 := fun k => by
    cases hk : ab_cl[k]? with
    | none => exact ⟨(0, fun _ => 0), fun q h => by cases h⟩
    | some q0 =>
      obtain ⟨Cn, T, N⟩ := q0
      obtain ⟨hin, -, -, ⟨-, hins⟩, -⟩ := ab_cl_ok hk
      obtain ⟨cC, iS, hKn⟩ := u_known htb hin (htb _ hins)
      exact ⟨(cC, iS), fun q h => by cases h; exact hKn⟩
  obtain ⟨cI, hI, nI⟩ := ab_K_arr (hts (.arrayClass .int) (List.mem_of_getElem? (i := 222) (by decide +kernel)))
  obtain ⟨cB, hB, nB⟩ := ab_K_arr (hts (.arrayClass .byte) (List.mem_of_getElem? (i := 164) (by decide +kernel)))
  obtain ⟨cJ, hJ, nJ⟩ := ab_K_arr (hts (.arrayClass .long) (List.mem_of_getElem? (i := 312) (by decide +kernel)))
  obtain ⟨cZ, hZ, nZ⟩ := ab_K_arr (hts (.arrayClass .boolean) (List.mem_of_getElem? (i := 1398) (by decide +kernel)))
  obtain ⟨cO, hO, nO⟩ := ab_K_ref (hts (.arrayOver (.object RX6)) (List.mem_of_getElem? (i := 407) (by decide +kernel)))
  refine ⟨(fun k => (Classical.choose (hc k)).1, fun k => (Classical.choose (hc k)).2), fun t => match t with
    | 0 => cI
    | 1 => cB
    | 2 => cJ
    | 3 => cZ
    | _ => cO, fun k q hq => Classical.choose_spec (hc k) q hq, fun k q hq => ?_⟩
  match k, hq with
  | 0, hq => cases hq; exact ⟨hI, nI⟩
  | 1, hq => cases hq; exact ⟨hB, nB⟩
  | 2, hq => cases hq; exact ⟨hJ, nJ⟩
  | 3, hq => cases hq; exact ⟨hZ, nZ⟩
  | 4, hq => cases hq; exact ⟨hO, nO⟩
  | k + 5, hq => simp [ab_tys] at hq
theorem ab_O_of {s : State} {b : Nat} (hts : ∀ w ∈ lw_tbl, w.before #[Value.ref b] s = true) (hgv : (Jvm.Cond.and given_1 narrow_1).before #[Value.ref b] s = true) : ∃ o : Nat → Option Nat, ab_O (b, o) s.heap.size s := by
  have hs := flat_of_before _ hgv
  have hA : ∀ a : Nat, a < s.heap.size → ¬ ab_A s.heap.size a := fun a h q => Nat.not_lt.mpr q h
  obtain ⟨t, ht, hT⟩ := va_Tof (tm := .static RX8 "HIGH" "[J") (ty := .long) (N := 6) (f := fun j => .long (ab_hi j)) (A := ab_A s.heap.size) (by decide) (hs _ (by decide +kernel)) (va_eqt (hs _ (by decide +kernel))) (fun j hj => va_eqtl (hs _ (match j, hj with
    | 0, _ => by decide +kernel
    | 1, _ => by decide +kernel
    | 2, _ => by decide +kernel
    | 3, _ => by decide +kernel
    | 4, _ => by decide +kernel
    | 5, _ => by decide +kernel
    | j + 6, h => absurd h (by omega)))) hA
  have hZ0 := va_Zof (A := ab_A s.heap.size) (hts (.laysStatic RX8 "HIGH" "[J") (List.mem_of_getElem? (i := 910) (by decide +kernel))) (hts (.initialized RX8) (List.mem_of_getElem? (i := 104) (by decide +kernel))) ht hA
  have hZ1 := va_Zof (A := ab_A s.heap.size) (hts (.laysStatic "java/lang/String" "COMPACT_STRINGS" "Z") (List.mem_of_getElem? (i := 613) (by decide +kernel))) (hts (.initialized "java/lang/String") (List.mem_of_getElem? (i := 111) (by decide +kernel))) (va_eqi (z := 1) (hs _ (by decide +kernel))) hA
  obtain ⟨v9, hv9, hr9⟩ := Cond.isRef_spec (hs (Cond.isRef (.static "jdk/internal/util/Preconditions" "SIOOBE_FORMATTER" "Ljava/util/function/BiFunction;")) (by decide +kernel))
  have hZ2 := va_Zof (A := ab_A s.heap.size) (hts (.laysStatic "jdk/internal/util/Preconditions" "SIOOBE_FORMATTER" "Ljava/util/function/BiFunction;") (List.mem_of_getElem? (i := 629) (by decide +kernel))) (hts (.initialized "jdk/internal/util/Preconditions") (List.mem_of_getElem? (i := 113) (by decide +kernel))) hv9 hA
  have h9 : ∃ o9 : Option Nat, v9 = va_rf o9 := by
    cases v9 with
    | ref a => exact ⟨some a, rfl⟩
    | null => exact ⟨none, rfl⟩
    | _ => cases hr9
  obtain ⟨o9, rfl⟩ := h9
  obtain ⟨adK, adV, hS, hev⟩ := vk_Sof (args := #[Value.ref b]) (s := s) (N := 4) (tm := fun i => .string RX4 (ab_si i).1) (len := [2, 3, 5, 5]) (byt := [ab_xt 0, ab_xt 1, ab_xt 2, ab_xt 3]) (A := ab_A s.heap.size)
    (fun i hi => match i, hi with
      | 0, _ => by decide
      | 1, _ => by decide
      | 2, _ => by decide
      | 3, _ => by decide
      | i + 4, h => absurd h (by omega))
    (fun i hi => hs _ (match i, hi with
      | 0, _ => by decide +kernel
      | 1, _ => by decide +kernel
      | 2, _ => by decide +kernel
      | 3, _ => by decide +kernel
      | i + 4, h => absurd h (by omega)))
    (fun i hi => hs _ (match i, hi with
      | 0, _ => by decide +kernel
      | 1, _ => by decide +kernel
      | 2, _ => by decide +kernel
      | 3, _ => by decide +kernel
      | i + 4, h => absurd h (by omega)))
    (fun i hi => hs _ (match i, hi with
      | 0, _ => by decide +kernel
      | 1, _ => by decide +kernel
      | 2, _ => by decide +kernel
      | 3, _ => by decide +kernel
      | i + 4, h => absurd h (by omega)))
    (fun i hi => hs _ (match i, hi with
      | 0, _ => by decide +kernel
      | 1, _ => by decide +kernel
      | 2, _ => by decide +kernel
      | 3, _ => by decide +kernel
      | i + 4, h => absurd h (by omega)))
    (fun i hi j hj => hs _ (match i, hi, j, hj with
      | 0, _, 0, _ => by decide +kernel
      | 0, _, 1, _ => by decide +kernel
      | 0, _, j + 2, h => absurd h (Nat.not_lt.mpr (Nat.le_add_left 2 j))
      | 1, _, 0, _ => by decide +kernel
      | 1, _, 1, _ => by decide +kernel
      | 1, _, 2, _ => by decide +kernel
      | 1, _, j + 3, h => absurd h (Nat.not_lt.mpr (Nat.le_add_left 3 j))
      | 2, _, 0, _ => by decide +kernel
      | 2, _, 1, _ => by decide +kernel
      | 2, _, 2, _ => by decide +kernel
      | 2, _, 3, _ => by decide +kernel
      | 2, _, 4, _ => by decide +kernel
      | 2, _, j + 5, h => absurd h (Nat.not_lt.mpr (Nat.le_add_left 5 j))
      | 3, _, 0, _ => by decide +kernel
      | 3, _, 1, _ => by decide +kernel
      | 3, _, 2, _ => by decide +kernel
      | 3, _, 3, _ => by decide +kernel
      | 3, _, 4, _ => by decide +kernel
      | 3, _, j + 5, h => absurd h (Nat.not_lt.mpr (Nat.le_add_left 5 j))
      | i + 4, h, _, _ => absurd h (by omega)))
    (fun i j hi hj hij => match i, hi, j, hj, hij with
      | 0, _, 0, _, h => absurd rfl h
      | 1, _, 1, _, h => absurd rfl h
      | 2, _, 2, _, h => absurd rfl h
      | 3, _, 3, _, h => absurd rfl h
      | 0, _, 1, _, _ => .inl (hs _ (by decide +kernel))
      | 0, _, 2, _, _ => .inl (hs _ (by decide +kernel))
      | 0, _, 3, _, _ => .inl (hs _ (by decide +kernel))
      | 1, _, 2, _, _ => .inl (hs _ (by decide +kernel))
      | 1, _, 3, _, _ => .inl (hs _ (by decide +kernel))
      | 2, _, 3, _, _ => .inl (hs _ (by decide +kernel))
      | 1, _, 0, _, _ => .inr (hs _ (by decide +kernel))
      | 2, _, 0, _, _ => .inr (hs _ (by decide +kernel))
      | 3, _, 0, _, _ => .inr (hs _ (by decide +kernel))
      | 2, _, 1, _, _ => .inr (hs _ (by decide +kernel))
      | 3, _, 1, _, _ => .inr (hs _ (by decide +kernel))
      | 3, _, 2, _, _ => .inr (hs _ (by decide +kernel))
      | i + 4, h, _, _, _ => absurd h (by omega)
      | 0, _, j + 4, h, _ => absurd h (by omega)
      | 1, _, j + 4, h, _ => absurd h (by omega)
      | 2, _, j + 4, h, _ => absurd h (by omega)
      | 3, _, j + 4, h, _ => absurd h (by omega)) hA
  refine ⟨fun k => if k = 0 then some t else if k = 9 then o9 else if k < 9 then some (adK (k - 1)) else some (adV (k - 11)), ⟨t, rfl, hT, hZ0⟩, hZ1, hZ2, fun k hk => ?_⟩
  refine ⟨adK k, adV k, ?_, ?_, ?_, ?_⟩
  · show (if k + 1 = 0 then some t else if k + 1 = 9 then o9 else if k + 1 < 9 then some (adK (k + 1 - 1)) else some (adV (k + 1 - 11))) = some (adK k)
    rw [if_neg (by omega), if_neg (by omega), if_pos (by omega), Nat.add_sub_cancel]
  · show (if k + 11 = 0 then some t else if k + 11 = 9 then o9 else if k + 11 < 9 then some (adK (k + 11 - 1)) else some (adV (k + 11 - 11))) = some (adV k)
    rw [if_neg (by omega), if_neg (by omega), if_neg (by omega), Nat.add_sub_cancel]
  · exact vk_R.of (hts _ (match k, hk with
      | 0, _ => List.mem_of_getElem? (i := 599) (by decide +kernel)
      | 1, _ => List.mem_of_getElem? (i := 676) (by decide +kernel)
      | 2, _ => List.mem_of_getElem? (i := 677) (by decide +kernel)
      | 3, _ => List.mem_of_getElem? (i := 678) (by decide +kernel)
      | k + 4, h => absurd h (by omega))) (hev k hk)
  · have hq := hS.1 k hk
    match k, hk, hq with
    | 0, _, hq => exact hq
    | 1, _, hq => exact hq
    | 2, _, hq => exact hq
    | 3, _, hq => exact hq
    | k + 4, h, _ => exact absurd h (by omega)
set_option maxHeartbeats 4000000 in
/-- THE LAW, out of a run of the abstract machine -/
theorem ab_top {p : Program} {e : Env} {s : State} {m : MethodId} {below : List Frame} {meth : Method} {c : Code} (l : Launch) {b L : Nat} {xs : Nat → Int32} (C0 : lw_At p s m meth c b L xs) {n : Nat} {hF : ab_H} (hx : ab_ex ab_G n 1000 ab_M_L_law 0 [(0, .ref 0)] [] (ab_h0 L xs) = some (some (.int 1), hF)) (hc1 : hF.1 ≤ 600001) (hq1 : hF.2.1 ≤ 7302250) : W p l e room_1 s m #[Value.ref b] below meth c s.heap [] 0 0 (lw_Z below #[Value.ref b] s) (entryFrame m ([Value.ref b] : List Value).toArray 4) := by
  obtain ⟨hx0, hb, hr, hml, hown, hts, hX, hbl, hlocks, hgv⟩ := C0
  obtain ⟨D, dA, hK⟩ := ab_K_all hts
  obtain ⟨o, hO⟩ := ab_O_of hts hgv
  have htb : ∀ w ∈ ab_tb, w.before #[Value.ref b] s = true := fun w h => hts w (List.mem_filter.mp h).1
  have hAX : ab_X s (b, o) s.heap.size D dA L xs := ⟨hK, fun x i y w hw => va_Nw.of rfl (hts _ hw), va_AO.of (hts (.arrayOver (.object RX6)) (List.mem_of_getElem? (i := 407) (by decide +kernel))), hX, hbl, Nat.le_refl _, hO⟩
  have C : ab_Cx p s m #[Value.ref b] meth c ab_M_L_law (b, o) s.heap.size D dA L xs := ⟨hx0, hb, hml, hown, htb, hr, hlocks, fun q => absurd q (by decide), hAX⟩
  have hl := lv_entry ([.ref b]) (n := 4) (Nat.le_of_ble_eq_true rfl)
  rw [lg_entry_eq]
  generalize (lg_sl ([.ref b]) ++ List.replicate (4 - (lg_sl ([.ref b])).length) Slot.unset).toArray = ls at hl ⊢
  have hR : ab_R (b, o) s.heap.size D dA L xs (ab_h0 L xs) s.heap := ⟨rfl, Nat.one_pos, rfl, fun i h1 h2 => by
    have h2 : i < 1 := h2
    omega⟩
  refine ab_snd ab_G_ok l n p e room_1 s m _ below meth c _ ab_M_L_law (b, o) s.heap.size D dA L xs 1000 0 [(0, .ref 0)] [] (ab_h0 L xs) (some (.int 1)) hF s.heap [] ls 0 0 1 0 C ab_K_L_law hx (by decide) (by decide) hR va_S.rf hl rfl rfl ?_ ?_ ?_
  · show hF.1 ≤ 1 + 600000; omega
  · show hF.2.1 ≤ 0 + 7302250; omega
  · intro H locs ls cells slots pc it st h2 hR hS hc hq hso hrt
    have hh := ab_rt_h hrt
    subst hh
    obtain ⟨i, len, r0, r1, r2, cst, ix⟩ := it
    obtain ⟨hd, hlen, -⟩ := hso
    refine va_forget (fun q hq => hS.2.2 q hq) ?_
    refine W.widen (k := 600000) (n := 7302250) (by omega) (by omega) ?_
    unfold ab_rt at hrt
    split at hrt
    · rename_i hi
      have hi : i = .ireturn := hi
      subst hi
      have hlen : len = 1 := hlen
      subst hlen
      split at hrt
      · rename_i v
        split at hrt
        · split at hrt
          · cases hrt
            exact lw_ret hx0 hb hr hlocks hd
          · cases hrt
        · cases hrt
      · cases hrt
    · split at hrt
      · split at hrt
        · cases hrt
        · cases hrt
      · cases hrt
    · split at hrt
      · split at hrt
        · cases hrt
        · cases hrt
      · cases hrt
    · cases hrt
