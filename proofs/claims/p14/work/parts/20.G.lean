/-- all methods, by number -/
def ab_GL : List (List (Option ab_M)) := [[some ab_M_X0_init, some ab_M_X0_find, some ab_M_X0_findQuarrels, some ab_M_X0_addQuarrel, some ab_M_X0_findTakenBack, some ab_M_X0_addTakenBack, some ab_M_X1_init, some ab_M_X1_gatherPrimes, some ab_M_X1_isPrime, some ab_M_X1_weighLevels, some ab_M_X1_putInOrder, some ab_M_X1_choose, some ab_M_X1_firstThatCanDo, some ab_M_X1_leastWeight, some ab_M_X1_weightAtLeast, some ab_M_X1_hardest],
  [some ab_M_X1_isOutdone, some ab_M_X2_init, some ab_M_X2_markingOf, some ab_M_X2_latest, some ab_M_X2_add, some ab_M_X2_dropLatest, some ab_M_X3_init, some ab_M_X3_clear, some ab_M_X3_copyFrom, some ab_M_X3_hasWire, some ab_M_X3_hasEvent, some ab_M_X3_hasPlace, some ab_M_X3_isMade, some ab_M_X3_madeWires, some ab_M_X3_eventsOf, some ab_M_X3_wireCalled],
  [some ab_M_X3_eventLike, some ab_M_X3_addWire, some ab_M_X3_addEvent, some ab_M_X3_addPlace, some ab_M_X3_isReady, some ab_M_X3_isUnsafe, some ab_M_X3_canCome, some ab_M_X3_after, some ab_M_X3_readyAt, some ab_M_X3_hasRoomForCure, some ab_M_X3_addWireBehind, some ab_M_X3_handOver, some ab_M_X3_freeLetter, some ab_M_X4_init, some ab_M_X4_append, some ab_M_X4_readInto],
  [some ab_M_X4_readLine, some ab_M_X4_readWire, some ab_M_X4_readPlace, some ab_M_X4_readEvent, some ab_M_X4_readIndex, some ab_M_X4_numberOf, some ab_M_X4_takeSign, some ab_M_X4_take, some ab_M_X4_refuse, some ab_M_X4_isLetter, some ab_M_X4_isSign, some ab_M_X4_isWord, some ab_M_X4_isSmallLetter, some ab_M_X4_isFigure, some ab_M_X5_init, some ab_M_X5_find],
  [some ab_M_X5_findEnds, some ab_M_X5_putInOrder, some ab_M_X5_waitsForNone, some ab_M_X5_findClosedWays, some ab_M_X5_turnWays, some ab_M_X5_goOnWithoutToken, some ab_M_X5_lengthen, some ab_M_X5_findBeat, some ab_M_X5_reduce, some ab_M_X5_endOf, some ab_M_X5_beginOf, some ab_M_X6_init, some ab_M_X6_isNothing, some ab_M_X6_renew, some ab_M_X6_faultAs, some ab_M_X6_hasCells],
  [some ab_M_X6_put, some ab_M_X7_init, some ab_M_X7_explore, some ab_M_X7_aims, some ab_M_X7_behind, some ab_M_X7_ends, some ab_M_X7_astray, some ab_M_X7_findHome, some ab_M_X7_leadsHome, some ab_M_X7_expand, some ab_M_X7_meet, some ab_M_X7_tellLevels, some ab_M_X8_init, some ab_M_X8_gather, some ab_M_X8_hasUnlikeAims, some ab_M_X8_isCube],
  [some ab_M_X8_cube, some ab_M_X8_solve, some ab_M_X8_levelsIn, some ab_M_X8_lettersOf, some ab_M_X9_init, some ab_M_X9_feed, some ab_M_X9_end, some ab_M_X9_text, some ab_M_X9_fault, some ab_M_X9_wire, some ab_M_X9_event, some ab_M_X9_place, some ab_M_X9_states, some ab_M_X9_right, some ab_M_X9_of, some ab_M_X9_quarrels],
  [some ab_M_X9_back, some ab_M_X9_stuck, some ab_M_X9_aim, some ab_M_X9_makes, some ab_M_X9_judge, some ab_M_X9_cost, some ab_M_X9_would, some ab_M_X9_cure, some ab_M_X9_cures, some ab_M_X9_delay, some ab_M_X9_beat, some ab_M_X9_time, some ab_M_X9_come, some ab_M_X9_undo, some ab_M_X9_run, some ab_M_X9_sheet],
  [some ab_M_X9_lay, some ab_M_X9_row, some ab_M_X9_count, some ab_M_X9_isSheet, some ab_M_X9_isLane, some ab_M_X9_beginAnew, some ab_M_X9_explore, some ab_M_X9_isRight, some ab_M_X9_findClashes, some ab_M_X9_gatherSums, some ab_M_X9_canBeMade, some ab_M_X9_findRings, some ab_M_X9_refusedCure, some ab_M_X9_tryCure, some ab_M_X9_wouldCure, some ab_M_X9_searchCures],
  [some ab_M_X9_lowest, some ab_M_X10_init, some ab_M_X10_in, some ab_M_X10_feed, some ab_M_X10_end, some ab_M_X10_byteAt, some ab_M_X10_failsAt, some ab_M_X10_fails, some ab_M_X10_next, some ab_M_X10_isSign, some ab_M_X10_isLetter, some ab_M_X10_wireAt, some ab_M_X10_readWire, some ab_M_X10_readEvent, some ab_M_X10_readPlace, some ab_M_X10_readLine],
  [some ab_M_X10_text, some ab_M_X10_fault, some ab_M_X10_isWire, some ab_M_X10_isEvent, some ab_M_X10_wire, some ab_M_X10_event, some ab_M_X10_feeding, some ab_M_X10_taking, some ab_M_X10_place, some ab_M_X10_isReady, some ab_M_X10_isUnsafe, some ab_M_X10_after, some ab_M_X10_stateOf, some ab_M_X10_layStates, some ab_M_X10_layLevels, some ab_M_X10_layRight],
  [some ab_M_X10_states, some ab_M_X10_right, some ab_M_X10_readyIn, some ab_M_X10_excited, some ab_M_X10_aims, some ab_M_X10_of, some ab_M_X10_ownWires, some ab_M_X10_layQuarrels, some ab_M_X10_quarrels, some ab_M_X10_layBacks, some ab_M_X10_back, some ab_M_X10_stuck, some ab_M_X10_layAims, some ab_M_X10_aim, some ab_M_X10_cubeAll, some ab_M_X10_levelsOf],
  [some ab_M_X10_lettersOf, some ab_M_X10_layCubes, some ab_M_X10_isHopeless, some ab_M_X10_hardest, some ab_M_X10_canMake, some ab_M_X10_layMakes, some ab_M_X10_cubeAt, some ab_M_X10_isOwn, some ab_M_X10_makes, some ab_M_X10_judge, some ab_M_X10_cost, some ab_M_X10_isFull, some ab_M_X10_addEvent, some ab_M_X10_addCure, some ab_M_X10_dropCure, some ab_M_X10_tryCure],
  [some ab_M_X10_would, some ab_M_X10_cure, some ab_M_X10_cures, some ab_M_X10_delay, some ab_M_X10_sizeOf, some ab_M_X10_leastOf, some ab_M_X10_layWays, some ab_M_X10_isGraph, some ab_M_X10_hasRing, some ab_M_X10_divisor, some ab_M_X10_beat, some ab_M_X10_layEnds, some ab_M_X10_time, some ab_M_X10_begin, some ab_M_X10_come, some ab_M_X10_undo],
  [some ab_M_X10_run, some ab_M_X10_sheet, some ab_M_X10_lay, some ab_M_X10_row, some ab_M_X10_count, some ab_M_J6_bitCount_0f7a4, some ab_M_J9_max_7cf53, some ab_M_J9_min_7cf53, some ab_M_J0_length_8abf5, some ab_M_J0_charAt_5068e, some ab_M_J0_coder_7d493, some ab_M_J0_isLatin1_aae02, some ab_M_J0_checkIndex_df160, some ab_M_J1_charAt_3b067, some ab_M_J7_fill_53178, some ab_M_J3_checkIndex_8e157]]
def ab_G (k : Nat) : Option ab_M := match ab_GL[k / 16]? with
  | some l => (match l[k % 16]? with
    | some q => q
    | none => none)
  | none => none
def ab_wb (ix : Nat) (w : Cond) : Bool := decide (lw_tbl[ix]? = some w) && goodWord w
theorem ab_wb_of {ix : Nat} {w : Cond} (h : ab_wb ix w = true) : w ∈ ab_tb := by
  unfold ab_wb at h
  simp only [Bool.and_eq_true, decide_eq_true_eq] at h
  exact ab_tb_of h.1 h.2
def ab_nb (ix : Nat) (w : Cond) : Bool := decide (lw_tbl[ix]? = some w)
theorem ab_nb_of {ix : Nat} {w : Cond} (h : ab_nb ix w = true) : w ∈ lw_tbl := List.mem_of_getElem? (of_decide_eq_true h)
def ab_lb (M : ab_M) (it : ab_I) (i : Nat) : Bool := match ab_G it.2.2.2.1 with
  | none => true
  | some M' => ab_wb it.2.2.2.2.2.2 (.methodLink M.1.cls i M'.1) && decide ((parseMethodDescriptor M'.1.desc).map (fun d => d.parameters.length) = some it.2.2.2.2.1)
def ab_lnb (M : ab_M) (it : ab_I) (i : Nat) : Bool := match ab_G it.2.2.2.1 with
  | none => true
  | some M' => ab_nb it.2.2.2.2.2.2 (.methodLinkNest M.1.cls i M'.1 RX9) && decide ((parseMethodDescriptor M'.1.desc).map (fun d => d.parameters.length) = some it.2.2.2.2.1)
def ab_sb (M : ab_M) (pc : Nat) (it : ab_I) : Bool := decide (decode M.2.1 pc = .ok (it.1, it.2.1)) && (decide (it.2.1 = ab_ln it.1 it.2.1) && (match it.1 with
  | .ldc i => (decide (it.2.2.1 = 7) && (decide (M.1.cls = RX4) && decide (i = (ab_si it.2.2.2.1).1))) || (decide (it.2.2.1 ≠ 7) && ab_wb it.2.2.2.2.2.2 (.constant M.1.cls i (Int32.ofInt it.2.2.2.2.2.1)))
  | .ldc_w i => ab_wb it.2.2.2.2.2.2 (.constant M.1.cls i (Int32.ofInt it.2.2.2.2.2.1))
  | .ldc2_w i => ab_wb it.2.2.2.2.2.2 (.constantLong M.1.cls i (Int64.ofInt it.2.2.2.2.2.1))
  | .ifCond _ off => decide (0 ≤ (pc : Int) + off)
  | .if_icmp _ off => decide (0 ≤ (pc : Int) + off)
  | .getfield i => (decide (it.2.2.1 = 20) && ((decide (it.2.2.2.1 = 0) && ab_wb it.2.2.2.2.2.2 (.fieldLink M.1.cls i "java/lang/String" "value" "[B")) || (decide (it.2.2.2.1 = 1) && ab_wb it.2.2.2.2.2.2 (.fieldLink M.1.cls i "java/lang/String" "coder" "B")))) || (decide (it.2.2.1 ≠ 20) && (match ab_cl[it.2.2.1]? with
    | some q => decide (it.2.2.2.1 < q.2.2) && ab_wb it.2.2.2.2.2.2 (.fieldLink M.1.cls i (q.2.1 it.2.2.2.1).1 (q.2.1 it.2.2.2.1).2.1 (q.2.1 it.2.2.2.1).2.2.1)
    | none => false))
  | .getstatic i => (decide (it.2.2.1 = 0) && ab_wb it.2.2.2.2.2.2 (.fieldLink M.1.cls i RX8 "HIGH" "[J")) || ((decide (it.2.2.1 = 1) && ab_wb it.2.2.2.2.2.2 (.fieldLink M.1.cls i "java/lang/String" "COMPACT_STRINGS" "Z")) || (decide (it.2.2.1 = 2) && ab_wb it.2.2.2.2.2.2 (.fieldLink M.1.cls i "jdk/internal/util/Preconditions" "SIOOBE_FORMATTER" "Ljava/util/function/BiFunction;")))
  | .putfield i => (match ab_cl[it.2.2.1]? with
    | some q => decide (it.2.2.2.1 < q.2.2) && (ab_wb it.2.2.2.2.2.2 (.fieldLink M.1.cls i (q.2.1 it.2.2.2.1).1 (q.2.1 it.2.2.2.1).2.1 (q.2.1 it.2.2.2.1).2.2.1) && (!(q.2.1 it.2.2.2.1).2.2.2 || (decide (M.1.name = "<init>") && decide ((q.2.1 it.2.2.2.1).1 = M.1.cls))))
    | none => false)
  | .new i => (match ab_cl[it.2.2.1]? with
    | some q => ab_wb it.2.2.2.2.2.2 (.classLink M.1.cls i q.1)
    | none => false)
  | .newarray t => ab_wb it.2.2.2.2.2.2 (.arrayClass (newarray.typeOf t))
  | .anewarray i => ab_wb it.2.2.2.2.2.2 (.classLink M.1.cls i RX6)
  | .invokevirtual i => (decide (it.2.2.1 = 0) || decide (it.2.2.1 = 9)) && ab_lb M it i
  | .invokestatic i => (decide (it.2.2.1 = 8) && ab_wb it.2.2.2.2.2.2 (.methodLink M.1.cls i arraycopyName)) || (decide (it.2.2.1 = 1) && ab_lb M it i) || (decide (it.2.2.1 = 3) && ab_lnb M it i)
  | .invokespecial i => (decide (it.2.2.1 = 5) && ab_wb it.2.2.2.2.2.2 (.methodLink M.1.cls i Lib.objectInit)) || ((decide (it.2.2.1 = 2) && ab_lb M it i) || (decide (it.2.2.1 = 4) && ab_lnb M it i))
  | _ => true))
theorem ab_lb_of {M : ab_M} {it : ab_I} {i : Nat} (h : ab_lb M it i = true) : ∀ M', ab_G it.2.2.2.1 = some M' → Cond.methodLink M.1.cls i M'.1 ∈ ab_tb ∧ (parseMethodDescriptor M'.1.desc).map (fun d => d.parameters.length) = some it.2.2.2.2.1 := fun M' hM => by
  unfold ab_lb at h
  rw [hM] at h
  simp only [Bool.and_eq_true, decide_eq_true_eq] at h
  exact ⟨ab_wb_of h.1, h.2⟩
theorem ab_lnb_of {M : ab_M} {it : ab_I} {i : Nat} (h : ab_lnb M it i = true) : ∀ M', ab_G it.2.2.2.1 = some M' → Cond.methodLinkNest M.1.cls i M'.1 RX9 ∈ lw_tbl ∧ (parseMethodDescriptor M'.1.desc).map (fun d => d.parameters.length) = some it.2.2.2.2.1 := fun M' hM => by
  unfold ab_lnb at h
  rw [hM] at h
  simp only [Bool.and_eq_true, decide_eq_true_eq] at h
  exact ⟨ab_nb_of h.1, h.2⟩
theorem ab_sb_of {M : ab_M} {pc : Nat} {it : ab_I} (h : ab_sb M pc it = true) : ab_so ab_G M pc it := by
  unfold ab_sb at h
  rw [Bool.and_eq_true, Bool.and_eq_true, decide_eq_true_eq, decide_eq_true_eq] at h
  obtain ⟨h1, h2, h3⟩ := h
  refine ⟨h1, h2, ?_⟩
  obtain ⟨i, len, r0, r1, r2, cst, ix⟩ := it
  cases i with
  | ldc i =>
    dsimp only at h3 ⊢
    rw [Bool.or_eq_true, Bool.and_eq_true, Bool.and_eq_true, Bool.and_eq_true, decide_eq_true_eq, decide_eq_true_eq, decide_eq_true_eq, decide_eq_true_eq] at h3
    rcases h3 with h3 | h3
    · exact Or.inl ⟨h3.1, h3.2.1, h3.2.2⟩
    · exact Or.inr ⟨h3.1, ab_wb_of h3.2⟩
  | ldc_w i => exact ab_wb_of h3
  | ldc2_w i => exact ab_wb_of h3
  | ifCond c off => exact of_decide_eq_true h3
  | if_icmp c off => exact of_decide_eq_true h3
  | getfield i =>
    dsimp only at h3 ⊢
    rw [Bool.or_eq_true, Bool.and_eq_true, Bool.and_eq_true, decide_eq_true_eq, decide_eq_true_eq] at h3
    rcases h3 with h3 | h3
    · refine Or.inl ⟨h3.1, ?_⟩
      have h4 := h3.2
      rw [Bool.or_eq_true, Bool.and_eq_true, Bool.and_eq_true, decide_eq_true_eq, decide_eq_true_eq] at h4
      rcases h4 with h4 | h4
      · exact Or.inl ⟨h4.1, ab_wb_of h4.2⟩
      · exact Or.inr ⟨h4.1, ab_wb_of h4.2⟩
    · refine Or.inr ⟨h3.1, ?_⟩
      have h4 := h3.2
      cases hc : ab_cl[r0]? with
      | none => rw [hc] at h4; cases h4
      | some q =>
        rw [hc] at h4
        obtain ⟨Cn, T, N⟩ := q
        dsimp only at h4
        rw [Bool.and_eq_true, decide_eq_true_eq] at h4
        exact ⟨Cn, T, N, rfl, h4.1, ab_wb_of h4.2⟩
  | getstatic i =>
    dsimp only at h3 ⊢
    rw [Bool.or_eq_true, Bool.or_eq_true, Bool.and_eq_true, Bool.and_eq_true, Bool.and_eq_true, decide_eq_true_eq, decide_eq_true_eq, decide_eq_true_eq] at h3
    rcases h3 with h3 | h3 | h3
    · exact Or.inl ⟨h3.1, ab_wb_of h3.2⟩
    · exact Or.inr (Or.inl ⟨h3.1, ab_wb_of h3.2⟩)
    · exact Or.inr (Or.inr ⟨h3.1, ab_wb_of h3.2⟩)
  | putfield i =>
    dsimp only at h3 ⊢
    cases hc : ab_cl[r0]? with
    | none => rw [hc] at h3; cases h3
    | some q =>
      rw [hc] at h3
      obtain ⟨Cn, T, N⟩ := q
      dsimp only at h3
      rw [Bool.and_eq_true, Bool.and_eq_true, decide_eq_true_eq] at h3
      refine ⟨Cn, T, N, rfl, h3.1, ab_wb_of h3.2.1, fun hf => ?_⟩
      have h4 := h3.2.2
      rw [hf] at h4
      simp only [Bool.not_true, Bool.false_or, Bool.and_eq_true, decide_eq_true_eq] at h4
      exact h4
  | new i =>
    dsimp only at h3 ⊢
    cases hc : ab_cl[r0]? with
    | none => rw [hc] at h3; cases h3
    | some q =>
      rw [hc] at h3
      obtain ⟨Cn, T, N⟩ := q
      exact ⟨Cn, T, N, rfl, ab_wb_of h3⟩
  | newarray t => exact ab_wb_of h3
  | anewarray i => exact ab_wb_of h3
  | invokevirtual i =>
    dsimp only at h3
    rw [Bool.and_eq_true, Bool.or_eq_true, decide_eq_true_eq, decide_eq_true_eq] at h3
    exact ⟨h3.1, ab_lb_of h3.2⟩
  | invokestatic i =>
    dsimp only at h3
    rw [Bool.or_eq_true, Bool.or_eq_true, Bool.and_eq_true, Bool.and_eq_true, Bool.and_eq_true, decide_eq_true_eq, decide_eq_true_eq, decide_eq_true_eq] at h3
    rcases h3 with (h3 | h3) | h3
    · exact Or.inl ⟨h3.1, ab_wb_of h3.2⟩
    · exact Or.inr (Or.inl ⟨h3.1, ab_lb_of h3.2⟩)
    · exact Or.inr (Or.inr ⟨h3.1, ab_lnb_of h3.2⟩)
  | invokespecial i =>
    dsimp only at h3
    rw [Bool.or_eq_true, Bool.or_eq_true, Bool.and_eq_true, Bool.and_eq_true, Bool.and_eq_true, decide_eq_true_eq, decide_eq_true_eq, decide_eq_true_eq] at h3
    rcases h3 with h3 | h3 | h3
    · exact Or.inl ⟨h3.1, ab_wb_of h3.2⟩
    · exact Or.inr (Or.inl ⟨h3.1, ab_lb_of h3.2⟩)
    · exact Or.inr (Or.inr ⟨h3.1, ab_lnb_of h3.2⟩)
  | _ => trivial
def ab_pb (M : ab_M) : Bool := M.2.2.2.2.2.all (fun l => l.all (fun r => ab_sb M r.1 r.2))
theorem ab_fd_mem : ∀ {l : List (Nat × ab_I)} {pc : Nat} {it : ab_I}, ab_fd l pc = some it → (pc, it) ∈ l
  | [], _, _, h => by cases h
  | q :: r, pc, it, h => by
    unfold ab_fd at h
    by_cases hq : q.1 = pc
    · rw [if_pos hq] at h
      cases h
      subst hq
      exact List.mem_cons_self
    · rw [if_neg hq] at h
      exact List.mem_cons_of_mem _ (ab_fd_mem h)
theorem ab_pb_of {M : ab_M} (h : ab_pb M = true) : ∀ pc it, ab_at M.2.2.2.2.2 pc = some it → ab_so ab_G M pc it := fun pc it hx => by
  unfold ab_at at hx
  split at hx
  · rename_i l hl
    exact ab_sb_of (List.all_eq_true.mp (List.all_eq_true.mp h l (List.mem_of_getElem? hl)) (pc, it) (ab_fd_mem hx))
  · cases hx
def ab_mb (M : ab_M) : Bool := ab_wb M.2.2.2.2.1.2.2.1 (.code M.1 M.2.1 M.2.2.1 M.2.2.2.1) && (ab_wb M.2.2.2.2.1.2.2.2.1 (.initialized M.1.cls) && (decide (M.1.cls ≠ "java/lang/invoke/MethodHandle") && (decide (M.1.cls ≠ "java/lang/invoke/VarHandle") && (decide (plainFor M.1 = true) && (decide (M.2.2.1 ≤ 41) && (match M.2.2.2.2.1.1 with
  | 0 => ab_wb M.2.2.2.2.1.2.2.2.2.1 (.instanceMethod M.1) && (ab_wb M.2.2.2.2.1.2.2.2.2.2 (.selects M.1.cls M.1 M.1) && (match ab_cl[M.2.2.2.2.1.2.1]? with
    | some q => decide (q.1 = M.1.cls)
    | none => false))
  | 1 => ab_wb M.2.2.2.2.1.2.2.2.2.1 (.static M.1)
  | 2 => decide (M.1.name = "<init>") && (ab_wb M.2.2.2.2.1.2.2.2.2.1 (.instanceMethod M.1) && decide (M.2.2.2.1 = none))
  | 3 => ab_wb M.2.2.2.2.1.2.2.2.2.1 (.instanceMethod M.1) && (ab_wb M.2.2.2.2.1.2.2.2.2.2 (.selects M.1.cls M.1 M.1) && decide (M.1.cls = "java/lang/String"))
  | _ => false))))))
theorem ab_mb_of {M : ab_M} (h : ab_mb M = true) : ab_mo M := by
  unfold ab_mb at h
  rw [Bool.and_eq_true, Bool.and_eq_true, Bool.and_eq_true, Bool.and_eq_true, Bool.and_eq_true, Bool.and_eq_true, decide_eq_true_eq, decide_eq_true_eq, decide_eq_true_eq, decide_eq_true_eq] at h
  obtain ⟨h1, h2, h3, h4, h5, h6, h7⟩ := h
  refine ⟨ab_wb_of h1, ab_wb_of h2, h3, h4, h5, h6, fun hk => ?_, fun hk => ?_, fun hk => ?_, fun hk => ?_⟩
  · rw [hk] at h7
    have h7 : (ab_wb M.2.2.2.2.1.2.2.2.2.1 (.instanceMethod M.1) && (ab_wb M.2.2.2.2.1.2.2.2.2.2 (.selects M.1.cls M.1 M.1) && (match ab_cl[M.2.2.2.2.1.2.1]? with
      | some q => decide (q.1 = M.1.cls)
      | none => false))) = true := h7
    rw [Bool.and_eq_true, Bool.and_eq_true] at h7
    refine ⟨ab_wb_of h7.1, ab_wb_of h7.2.1, ?_⟩
    have h8 := h7.2.2
    cases hc : ab_cl[M.2.2.2.2.1.2.1]? with
    | none => rw [hc] at h8; cases h8
    | some q =>
      rw [hc] at h8
      obtain ⟨Cn, T, N⟩ := q
      have h8 : Cn = M.1.cls := of_decide_eq_true h8
      exact ⟨T, N, by rw [h8]⟩
  · rw [hk] at h7
    exact ab_wb_of h7
  · rw [hk] at h7
    have h7 : (decide (M.1.name = "<init>") && (ab_wb M.2.2.2.2.1.2.2.2.2.1 (.instanceMethod M.1) && decide (M.2.2.2.1 = none))) = true := h7
    rw [Bool.and_eq_true, Bool.and_eq_true, decide_eq_true_eq, decide_eq_true_eq] at h7
    exact ⟨h7.1, ab_wb_of h7.2.1, h7.2.2⟩
  · rw [hk] at h7
    have h7 : (ab_wb M.2.2.2.2.1.2.2.2.2.1 (.instanceMethod M.1) && (ab_wb M.2.2.2.2.1.2.2.2.2.2 (.selects M.1.cls M.1 M.1) && decide (M.1.cls = "java/lang/String"))) = true := h7
    rw [Bool.and_eq_true, Bool.and_eq_true, decide_eq_true_eq] at h7
    exact ⟨ab_wb_of h7.1, ab_wb_of h7.2.1, h7.2.2⟩
theorem ab_ok_of {M : ab_M} (h1 : ab_mb M = true) (h2 : ab_pb M = true) : ab_ok ab_G M := ⟨ab_mb_of h1, ab_pb_of h2⟩
theorem ab_G_mem {k : Nat} {M : ab_M} (h : ab_G k = some M) : ∃ l ∈ ab_GL, some M ∈ l := by
  unfold ab_G at h
  split at h
  · rename_i l hl
    split at h
    · rename_i q hq
      subst h
      exact ⟨l, List.mem_of_getElem? hl, List.mem_of_getElem? hq⟩
    · cases h
  · cases h
