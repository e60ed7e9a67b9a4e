/-! ===== Rings.putInOrder: how many are in order is how many bits are set ===== -/
def po_pc (x : BitVec 32) : Nat → Nat
  | 0 => 0
  | n + 1 => (if x.getLsbD n = true then 1 else 0) + po_pc x n
theorem po_pc_le (x : BitVec 32) : ∀ n, po_pc x n ≤ n
  | 0 => Nat.le_refl _
  | n + 1 => by
    have := po_pc_le x n
    unfold po_pc
    split <;> omega
theorem po_pc_lt {x : BitVec 32} {e : Nat} (he : x.getLsbD e = false) : ∀ n, e < n → po_pc x n < n
  | 0, h => absurd h (by omega)
  | n + 1, h => by
    unfold po_pc
    by_cases e1 : e = n
    · subst e1
      have := po_pc_le x e
      rw [he, if_neg (by decide)]
      omega
    · have := po_pc_lt he n (by omega)
      split <;> omega
theorem po_pc_or {x : BitVec 32} {e : Nat} (he : x.getLsbD e = false) (h32 : e < 32) : ∀ n, po_pc (x ||| BitVec.twoPow 32 e) n = po_pc x n + (if e < n then 1 else 0)
  | 0 => by simp [po_pc]
  | n + 1 => by
    have ih := po_pc_or he h32 n
    unfold po_pc
    rw [ih, BitVec.getLsbD_or, BitVec.getLsbD_twoPow, decide_eq_true h32, Bool.true_and]
    by_cases e1 : e = n
    · subst e1
      rw [he, decide_eq_true rfl, if_neg (show ¬ e < e by omega), if_pos (show e < e + 1 by omega)]
      simp
      omega
    · rw [decide_eq_false (fun q => e1 q), Bool.or_false]
      by_cases e2 : e < n
      · rw [if_pos e2, if_pos (show e < n + 1 by omega)]
        omega
      · rw [if_neg e2, if_neg (show ¬ e < n + 1 by omega)]
        omega
theorem po_shr {D E : Int32} (h1 : 0 ≤ E.toInt) (h2 : E.toInt ≤ 15) : ((D >>> (E &&& 31)) &&& 1).toInt = 0 ↔ D.toBitVec.getLsbD E.toInt.toNat = false := by
  obtain ⟨n, n1, n2, n3⟩ := sx_sl E
  have hn : n = E.toInt.toNat := by have := n3 h1 (by omega); omega
  have e1 : (D >>> (E &&& 31)).toBitVec.getLsbD 0 = D.toBitVec.getLsbD E.toInt.toNat := by
    rw [Int32.toBitVec_shiftRight, show D.toBitVec.sshiftRight' ((E &&& 31).toBitVec.smod 32) = D.toBitVec.sshiftRight ((E &&& 31).toBitVec.smod 32).toNat from rfl, n2, hn, BitVec.getLsbD_sshiftRight]
    rw [if_pos (by omega)]
    simp
  have e2 : ∀ y : Int32, (y &&& 1).toInt = 0 ↔ y.toBitVec.getLsbD 0 = false := fun y => by
    have a1 : (y &&& 1).toInt = 0 ↔ (y &&& 1).toBitVec = 0#32 := by
      constructor
      · intro q
        have : y &&& 1 = 0 := Int32.toInt_inj.mp q
        rw [this]
        rfl
      · intro q
        have : (y &&& 1).toInt = (y &&& 1).toBitVec.toInt := rfl
        rw [this, q]
        rfl
    rw [a1, Int32.toBitVec_and]
    constructor
    · intro q
      have := congrArg (fun b => b.getLsbD 0) q
      simp at this
      simpa using this
    · intro q
      apply BitVec.eq_of_getLsbD_eq
      intro i hi
      rw [BitVec.getLsbD_and, BitVec.getLsbD_zero]
      cases i with
      | zero => rw [q]; rfl
      | succ i =>
        have : (1 : Int32).toBitVec.getLsbD (i + 1) = false := by
          show (1#32).getLsbD (i + 1) = false
          simp
        rw [this, Bool.and_false]
  rw [e2, e1]
theorem po_shl {E : Int32} (h1 : 0 ≤ E.toInt) (h2 : E.toInt ≤ 15) : ((1 : Int32) <<< (E &&& 31)).toBitVec = BitVec.twoPow 32 E.toInt.toNat := by
  have h3 : E = Int32.ofNat E.toInt.toNat := by
    refine Int32.toInt_inj.mp ?_
    rw [Int32.toInt_ofNat_of_lt (by omega)]
    omega
  have key : ∀ n, n < 16 → ((1 : Int32) <<< (Int32.ofNat n &&& 31)).toBitVec = BitVec.twoPow 32 n := by decide
  have := key E.toInt.toNat (by omega)
  rw [← h3] at this
  exact this
def po_b (D r o e : Int) : Nat → Int := fun s => if s = 1 then D else if s = 2 then r else if s = 3 then o else if s = 4 then e else 0
def po_env (rh eh oh : Int) : sx_N := [(1, -2147483648, 2147483647), (2, 0, rh), (3, 0, oh), (4, 0, eh)]
def po_S (lo : List (Nat × sx_V)) (N : sx_N) (o : sx_E) : sx_S := (lo, [], [(3847, .inl (0, o))], [], N, [], 5)
def po_l9 (N : Nat) (r : sx_E) : List (Nat × sx_V) := [(0, .inr (1, 30)), (1, .inr (1, N)), (2, .inl (0, sx_Y 1)), (3, .inl (0, r))]
def po_lo (N : Nat) (r e : sx_E) : List (Nat × sx_V) := (4, .inl (0, e)) :: po_l9 N r
def po_K (rh eh oh : Int) (os : List sx_S) : sx_KK := (9998, ([], [], [], [], po_env rh eh oh, [], 5), [3847, 4349, 4351], 2, os)
def po_os : List sx_S := [([], [.inl (0, (0, [(5, 1)]))], [], [], [(5, 0, 1)], [], 6)]
theorem po_9_41 : sx_run sx_SP sx_KT2 (po_K 16 0 16 po_os) ab_M_X5_putInOrder [(20, po_S (po_lo 41 (sx_Y 2) (0, [])) (po_env 15 0 16) (sx_Y 3), (0, []))] none 200 9 (po_S (po_l9 41 (sx_Y 2)) (po_env 16 0 16) (sx_Y 3)) = true := by decide +kernel
theorem po_9_52 : sx_run sx_SP sx_KT2 (po_K 16 0 16 po_os) ab_M_X5_putInOrder [(20, po_S (po_lo 52 (sx_Y 2) (0, [])) (po_env 15 0 16) (sx_Y 3), (0, []))] none 200 9 (po_S (po_l9 52 (sx_Y 2)) (po_env 16 0 16) (sx_Y 3)) = true := by decide +kernel
theorem po_20_41 : sx_run sx_SP sx_KT2 (po_K 15 16 16 []) ab_M_X5_putInOrder [(29, po_S (po_lo 41 (sx_Y 2) (sx_Y 4)) (po_env 15 15 16) (sx_Y 3), (0, [])), (9, po_S (po_l9 41 (1, [(2, 1)])) (po_env 15 16 16) (sx_Y 3), (0, []))] none 200 20 (po_S (po_lo 41 (sx_Y 2) (sx_Y 4)) (po_env 15 16 16) (sx_Y 3)) = true := by decide +kernel
theorem po_20_52 : sx_run sx_SP sx_KT2 (po_K 15 16 16 []) ab_M_X5_putInOrder [(29, po_S (po_lo 52 (sx_Y 2) (sx_Y 4)) (po_env 15 15 16) (sx_Y 3), (0, [])), (9, po_S (po_l9 52 (1, [(2, 1)])) (po_env 15 16 16) (sx_Y 3), (0, []))] none 200 20 (po_S (po_lo 52 (sx_Y 2) (sx_Y 4)) (po_env 15 16 16) (sx_Y 3)) = true := by decide +kernel
theorem po_77_41 : sx_run sx_SP sx_KT2 (po_K 15 15 16 []) ab_M_X5_putInOrder [(20, po_S (po_lo 41 (sx_Y 2) (1, [(4, 1)])) (po_env 15 15 16) (sx_Y 3), (0, []))] none 200 77 (po_S (po_lo 41 (sx_Y 2) (sx_Y 4)) (po_env 15 15 16) (sx_Y 3)) = true := by decide +kernel
theorem po_77_52 : sx_run sx_SP sx_KT2 (po_K 15 15 16 []) ab_M_X5_putInOrder [(20, po_S (po_lo 52 (sx_Y 2) (1, [(4, 1)])) (po_env 15 15 16) (sx_Y 3), (0, []))] none 200 77 (po_S (po_lo 52 (sx_Y 2) (sx_Y 4)) (po_env 15 15 16) (sx_Y 3)) = true := by decide +kernel
theorem po_38_41 : sx_run sx_SP sx_KT2 (po_K 15 15 16 []) ab_M_X5_putInOrder [(49, po_S (po_lo 41 (sx_Y 2) (sx_Y 4)) (po_env 15 15 16) (sx_Y 3), (0, [])), (77, po_S (po_lo 41 (sx_Y 2) (sx_Y 4)) (po_env 15 15 16) (sx_Y 3), (0, []))] none 200 38 (po_S (po_lo 41 (sx_Y 2) (sx_Y 4)) (po_env 15 15 16) (sx_Y 3)) = true := by decide +kernel
theorem po_38_52 : sx_run sx_SP sx_KT2 (po_K 15 15 16 []) ab_M_X5_putInOrder [(49, po_S (po_lo 52 (sx_Y 2) (sx_Y 4)) (po_env 15 15 16) (sx_Y 3), (0, [])), (77, po_S (po_lo 52 (sx_Y 2) (sx_Y 4)) (po_env 15 15 16) (sx_Y 3), (0, []))] none 200 38 (po_S (po_lo 52 (sx_Y 2) (sx_Y 4)) (po_env 15 15 16) (sx_Y 3)) = true := by decide +kernel
theorem po_56_41 : sx_run sx_SP sx_KT2 (po_K 15 15 15 []) ab_M_X5_putInOrder [(77, po_S (po_lo 41 (sx_Y 2) (sx_Y 4)) (po_env 15 15 15) (1, [(3, 1)]), (0, []))] none 200 56 (po_S (po_lo 41 (sx_Y 2) (sx_Y 4)) (po_env 15 15 15) (sx_Y 3)) = true := by decide +kernel
theorem po_56_52 : sx_run sx_SP sx_KT2 (po_K 15 15 15 []) ab_M_X5_putInOrder [(77, po_S (po_lo 52 (sx_Y 2) (sx_Y 4)) (po_env 15 15 15) (1, [(3, 1)]), (0, []))] none 200 56 (po_S (po_lo 52 (sx_Y 2) (sx_Y 4)) (po_env 15 15 15) (sx_Y 3)) = true := by decide +kernel
theorem po_0_41 : sx_run sx_SP sx_KT2 (po_K 0 0 0 []) ab_M_X5_putInOrder [(9, po_S [(0, .inr (1, 30)), (1, .inr (1, 41)), (2, .inl (0, (0, []))), (3, .inl (0, (0, [])))] (po_env 0 0 0) (0, []), (0, []))] none 200 0 ([(0, .inr (1, 30)), (1, .inr (1, 41))], [], [], [], po_env 0 0 0, [], 5) = true := by decide +kernel
theorem po_0_52 : sx_run sx_SP sx_KT2 (po_K 0 0 0 []) ab_M_X5_putInOrder [(9, po_S [(0, .inr (1, 30)), (1, .inr (1, 52)), (2, .inl (0, (0, []))), (3, .inl (0, (0, [])))] (po_env 0 0 0) (0, []), (0, []))] none 200 0 ([(0, .inr (1, 30)), (1, .inr (1, 52))], [], [], [], po_env 0 0 0, [], 5) = true := by decide +kernel
section PO
variable {z L : Nat} {xs : Nat → Int32} {N d : Nat} {h0 : ab_H} {Q : Option Value → ab_H → Prop}
/-- what stands at the heads of the two loops -/
def po_I9 (z L : Nat) (xs : Nat → Int32) (N : Nat) (lv : ab_L) (h : ab_H) (D : Int32) (r o : Int) : Prop := ab_lk lv 0 = some (.ref 30) ∧ ab_lk lv 1 = some (.ref N) ∧ ab_lk lv 2 = some (.int D) ∧ (∃ x : Int32, ab_lk lv 3 = some (.int x) ∧ x.toInt = r) ∧ (∃ x : Int32, sx_fd h 3847 = some (.int x) ∧ x.toInt = o) ∧ sx_h sx_SP z L xs h
theorem po_in9 {lv : ab_L} {h : ab_H} {D : Int32} {r o e rh eh oh : Int} (i : po_I9 z L xs N lv h D r o) (hr : 0 ≤ r ∧ r ≤ rh) (he : 0 ≤ e ∧ e ≤ eh) (ho : 0 ≤ o ∧ o ≤ oh) : sx_at sx_SP z L xs (po_S (po_l9 N (sx_Y 2)) (po_env rh eh oh) (sx_Y 3)) (po_b D.toInt r o e) lv [] h := by
  obtain ⟨i0, i1, i2, ⟨x3, i3, j3⟩, ⟨xo, io, jo⟩, hh⟩ := i
  refine ⟨fun q hq => ?_, trivial, fun q hq => ?_, fun q hq => (by cases hq), fun q hq => ?_, fun q hq => (by cases hq), hh⟩
  · rcases List.mem_cons.mp hq with rfl | hq
    · exact ⟨_, i0, rfl⟩
    rcases List.mem_cons.mp hq with rfl | hq
    · exact ⟨_, i1, rfl⟩
    rcases List.mem_cons.mp hq with rfl | hq
    · exact ⟨_, i2, by show D.toInt = _; rw [sx_ev_Y]; rfl⟩
    rcases List.mem_cons.mp hq with rfl | hq
    · exact ⟨_, i3, by show x3.toInt = _; rw [sx_ev_Y, j3]; rfl⟩
    cases hq
  · rcases List.mem_cons.mp hq with rfl | hq
    · exact ⟨_, io, by show xo.toInt = _; rw [sx_ev_Y, jo]; rfl⟩
    cases hq
  · have b1 := D.le_toInt
    have b2 := D.toInt_lt
    rcases List.mem_cons.mp hq with rfl | hq
    · show -2147483648 ≤ D.toInt ∧ D.toInt ≤ 2147483647
      omega
    rcases List.mem_cons.mp hq with rfl | hq
    · exact hr
    rcases List.mem_cons.mp hq with rfl | hq
    · exact ho
    rcases List.mem_cons.mp hq with rfl | hq
    · exact he
    cases hq
theorem po_in {lv : ab_L} {h : ab_H} {D E : Int32} {r o rh eh oh : Int} (i : po_I9 z L xs N lv h D r o) (i4 : ab_lk lv 4 = some (.int E)) (hr : 0 ≤ r ∧ r ≤ rh) (he : 0 ≤ E.toInt ∧ E.toInt ≤ eh) (ho : 0 ≤ o ∧ o ≤ oh) : sx_at sx_SP z L xs (po_S (po_lo N (sx_Y 2) (sx_Y 4)) (po_env rh eh oh) (sx_Y 3)) (po_b D.toInt r o E.toInt) lv [] h := by
  have g := po_in9 (e := E.toInt) i hr he ho
  refine ⟨fun q hq => ?_, g.2⟩
  rcases List.mem_cons.mp hq with rfl | hq
  · exact ⟨_, i4, by show E.toInt = _; rw [sx_ev_Y]; rfl⟩
  · exact g.1 q hq
theorem po_out9 {lv : ab_L} {st : List Value} {h : ab_H} {er eo : sx_E} {β : Nat → Int} {lo : List (Nat × sx_V)} {nn : sx_N} {D : Int32} {r o e : Int} (g : sx_at sx_SP z L xs (po_S lo nn eo) β lv st h) (hlo : ∀ q ∈ po_l9 N er, q ∈ lo) (ha : sx_ag 5 (po_b D.toInt r o e) β) (w1 : sx_wE 5 er = true) (w2 : sx_wE 5 eo = true) : st = [] ∧ po_I9 z L xs N lv h D (sx_ev (po_b D.toInt r o e) er) (sx_ev (po_b D.toInt r o e) eo) := by
  obtain ⟨g1, g2, g3, -, g5, -, hh⟩ := g
  have hst : st = [] := by
    cases st with
    | nil => rfl
    | cons _ _ => exact g2.elim
  refine ⟨hst, ?_⟩
  obtain ⟨w0, a0, v0⟩ := g1 _ (hlo (0, .inr (1, 30)) List.mem_cons_self)
  obtain ⟨w1', a1, v1⟩ := g1 _ (hlo (1, .inr (1, N)) (List.mem_cons_of_mem _ List.mem_cons_self))
  obtain ⟨w2', a2, v2⟩ := g1 _ (hlo (2, .inl (0, sx_Y 1)) (List.mem_cons_of_mem _ (List.mem_cons_of_mem _ List.mem_cons_self)))
  obtain ⟨w3, a3, v3⟩ := g1 _ (hlo (3, .inl (0, er)) (List.mem_cons_of_mem _ (List.mem_cons_of_mem _ (List.mem_cons_of_mem _ List.mem_cons_self))))
  obtain ⟨wo, ao, vo⟩ := g3 _ List.mem_cons_self
  refine ⟨?_, ?_, ?_, ?_, ?_, hh⟩
  · cases w0 with
    | ref b => have e : (30 : Nat) = b := v0; rw [e]; exact a0
    | _ => exact v0.elim
  · cases w1' with
    | ref b => have e : N = b := v1; rw [e]; exact a1
    | _ => exact v1.elim
  · cases w2' with
    | int x =>
      have e : x.toInt = sx_ev β (sx_Y 1) := v2
      rw [sx_ev_Y, ha 1 (by decide)] at e
      have e : x = D := Int32.toInt_inj.mp e
      rw [← e]; exact a2
    | _ => exact v2.elim
  · cases w3 with
    | int x => exact ⟨x, a3, by have e : x.toInt = sx_ev β er := v3; rw [e, sx_ev_ag ha w1]⟩
    | _ => exact v3.elim
  · cases wo with
    | int x => exact ⟨x, ao, by have e : x.toInt = sx_ev β eo := vo; rw [e, sx_ev_ag ha w2]⟩
    | _ => exact vo.elim
theorem po_out4 {lv : ab_L} {st : List Value} {h : ab_H} {er ee eo : sx_E} {β : Nat → Int} {nn : sx_N} {D : Int32} {r o e : Int} (g : sx_at sx_SP z L xs (po_S (po_lo N er ee) nn eo) β lv st h) (ha : sx_ag 5 (po_b D.toInt r o e) β) (w1 : sx_wE 5 ee = true) : ∃ E : Int32, ab_lk lv 4 = some (.int E) ∧ E.toInt = sx_ev (po_b D.toInt r o e) ee := by
  obtain ⟨w, a, v⟩ := g.1 _ List.mem_cons_self
  cases w with
  | int x => exact ⟨x, a, by have e : x.toInt = sx_ev β ee := v; rw [e, sx_ev_ag ha w1]⟩
  | _ => exact v.elim
theorem po_lsub {er ee : sx_E} : ∀ q ∈ po_l9 N er, q ∈ po_lo N er ee := fun q hq => List.mem_cons_of_mem _ hq
theorem po_e2 (D r o e : Int) : sx_ev (po_b D r o e) (sx_Y 2) = r := sx_ev_Y _ 2
theorem po_e3 (D r o e : Int) : sx_ev (po_b D r o e) (sx_Y 3) = o := sx_ev_Y _ 3
theorem po_e4 (D r o e : Int) : sx_ev (po_b D r o e) (sx_Y 4) = e := sx_ev_Y _ 4
theorem po_e21 (D r o e : Int) : sx_ev (po_b D r o e) (1, [(2, 1)]) = r + 1 := by simp [sx_ev, sx_ts, po_b]; omega
theorem po_e31 (D r o e : Int) : sx_ev (po_b D r o e) (1, [(3, 1)]) = o + 1 := by simp [sx_ev, sx_ts, po_b]; omega
theorem po_e41 (D r o e : Int) : sx_ev (po_b D r o e) (1, [(4, 1)]) = e + 1 := by simp [sx_ev, sx_ts, po_b]; omega
/-- the contracts that it rests on -/
def po_T (z L : Nat) (xs : Nat → Int32) : Prop := ∀ K', sx_mem sx_KT2 K' → K'.2.2.2.1 < 2 → sx_holds sx_SP z L xs K'
theorem po_O0 (rh eh oh : Int) : ∀ O ∈ (po_K rh eh oh []).2.2.2.2, O.1 = [] := fun O hO => by cases hO
theorem po_O1 (rh eh oh : Int) : ∀ O ∈ (po_K rh eh oh po_os).2.2.2.2, O.1 = [] := fun O hO => by
  rw [List.mem_singleton.mp hO]
theorem po_Q0 {rh eh oh : Int} {β0 : Nat → Int} : ∀ r h', sx_post sx_SP z L xs (po_K rh eh oh []) β0 h0 r h' → Q r h' := fun r h' hp => by
  obtain ⟨O, hO, -⟩ := hp
  cases hO
theorem po_77 (hN : N = 41 ∨ N = 52) (T : po_T z L xs) (hd : 2 ≤ d) {r : Int} (hr : 0 ≤ r ∧ r ≤ 15) {D E : Int32} {lv : ab_L} {h : ab_H} (e1 : 0 ≤ E.toInt) (e2 : E.toInt ≤ 15) (i : po_I9 z L xs N lv h D r (po_pc D.toBitVec 16)) (i4 : ab_lk lv 4 = some (.int E)) (hfr : sx_fr [3847, 4349, 4351] h0 h)
    (H20 : ∀ (E' : Int32) (lv : ab_L) (h : ab_H), E'.toInt = E.toInt + 1 → po_I9 z L xs N lv h D r (po_pc D.toBitVec 16) → ab_lk lv 4 = some (.int E') → sx_fr [3847, 4349, 4351] h0 h → ab_go d ab_M_X5_putInOrder 20 lv [] h Q) : ab_go d ab_M_X5_putInOrder 77 lv [] h Q := by
  have hp := po_pc_le D.toBitVec 16
  have g := sx_wS_ok (A := po_S (po_lo N (sx_Y 2) (sx_Y 4)) (po_env 15 15 16) (sx_Y 3)) rfl (po_in i i4 hr ⟨e1, e2⟩ ⟨by omega, by omega⟩)
  have run : sx_run sx_SP sx_KT2 (po_K 15 15 16 []) ab_M_X5_putInOrder [(20, po_S (po_lo N (sx_Y 2) (1, [(4, 1)])) (po_env 15 15 16) (sx_Y 3), (0, []))] none 200 77 (po_S (po_lo N (sx_Y 2) (sx_Y 4)) (po_env 15 15 16) (sx_Y 3)) = true := by
    rcases hN with e | e <;> subst e
    · exact po_77_41
    · exact po_77_52
  refine sx_seg (K := po_K 15 15 16 []) (β0 := po_b D.toInt r (po_pc D.toBitVec 16) E.toInt) (h0 := h0) T hd (po_O0 _ _ _) po_Q0 (fun b hb β lv' st h' g' hag hfr' => ?_) 200 77 _ _ lv [] h run g sx_ag.rf (Nat.le_refl _) hfr
  rw [List.mem_singleton] at hb
  subst hb
  obtain ⟨rfl, i'⟩ := po_out9 g' po_lsub hag rfl rfl
  obtain ⟨E', j4, je⟩ := po_out4 g' hag rfl
  rw [po_e2, po_e3] at i'
  rw [po_e41] at je
  exact H20 E' lv' h' je i' j4 hfr'
theorem po_ild {nL i n pc : Nat} {lv : ab_L} {st : List Value} {h : ab_H} {x : Int32} (hx : ab_lk lv i = some (.int x)) : ab_ild i n pc lv st h = some (pc + n, lv, .int x :: st, h) := by
  unfold ab_ild
  rw [hx]
theorem po_s1_other {lv : ab_L} {i j : Nat} {v w : Value} (hj : ab_lk lv j = some w) (hne : j ≠ i) (hc : ¬ (j + 1 = i ∧ w.category = 2)) : ab_lk (ab_s1 i v lv) j = some w := by
  unfold ab_s1 ab_lk
  rw [if_neg (fun q => hne q.symm)]
  refine sx_lk_filter hj ?_
  dsimp only
  rw [Bool.and_eq_true, Bool.not_eq_true', Bool.not_eq_true']
  refine ⟨by simpa using hne, ?_⟩
  rw [Bool.and_eq_false_iff]
  by_cases h1 : j + 1 = i
  · exact Or.inr (by simpa using fun q => hc ⟨h1, q⟩)
  · exact Or.inl (by simpa using h1)
theorem po_49 (hN : N = 41 ∨ N = 52) (T : po_T z L xs) (hd : 2 ≤ d) {r : Int} (hr : 0 ≤ r ∧ r ≤ 15) {D E : Int32} {lv : ab_L} {h : ab_H} (e1 : 0 ≤ E.toInt) (e2 : E.toInt ≤ 15) (hbit : D.toBitVec.getLsbD E.toInt.toNat = false) (i : po_I9 z L xs N lv h D r (po_pc D.toBitVec 16)) (i4 : ab_lk lv 4 = some (.int E)) (hfr : sx_fr [3847, 4349, 4351] h0 h)
    (H77 : ∀ (D' : Int32) (lv : ab_L) (h : ab_H), po_I9 z L xs N lv h D' r (po_pc D'.toBitVec 16) → ab_lk lv 4 = some (.int E) → sx_fr [3847, 4349, 4351] h0 h → ab_go d ab_M_X5_putInOrder 77 lv [] h Q) : ab_go d ab_M_X5_putInOrder 49 lv [] h Q := by
  have hp := po_pc_lt hbit 16 (by omega)
  obtain ⟨i0, i1, i2, ⟨x3, i3, j3⟩, io, hh⟩ := i
  refine go_s (pc' := 50) (lv' := lv) (st' := [.int D]) (h' := h) rfl rfl (po_ild (nL := 0) i2) ?_
  refine go_s (pc' := 51) (lv' := lv) (st' := [.int 1, .int D]) (h' := h) rfl rfl rfl ?_
  refine go_s (pc' := 53) (lv' := lv) (st' := [.int E, .int 1, .int D]) (h' := h) rfl rfl (po_ild (nL := 0) i4) ?_
  refine go_s (pc' := 54) (lv' := lv) (st' := [.int ((1 : Int32) <<< (E &&& 31)), .int D]) (h' := h) rfl rfl rfl ?_
  refine go_s (pc' := 55) (lv' := lv) (st' := [.int (D ||| (1 : Int32) <<< (E &&& 31))]) (h' := h) rfl rfl rfl ?_
  refine go_s (pc' := 56) (lv' := ab_s1 2 (.int (D ||| (1 : Int32) <<< (E &&& 31))) lv) (st' := []) (h' := h) rfl rfl rfl ?_
  generalize hD : D ||| (1 : Int32) <<< (E &&& 31) = D'
  have hb : D'.toBitVec = D.toBitVec ||| BitVec.twoPow 32 E.toInt.toNat := by
    rw [← hD, Int32.toBitVec_or, po_shl e1 e2]
  have hpc : po_pc D'.toBitVec 16 = po_pc D.toBitVec 16 + 1 := by
    rw [hb, po_pc_or hbit (by omega), if_pos (by omega)]
  have i' : po_I9 z L xs N (ab_s1 2 (.int D') lv) h D' r (po_pc D.toBitVec 16) := ⟨po_s1_other i0 (by decide) (fun q => absurd q.1 (by decide)), po_s1_other i1 (by decide) (fun q => absurd q.2 (show ¬ (1 : Nat) = 2 by decide)), by unfold ab_s1 ab_lk; exact if_pos rfl, ⟨x3, po_s1_other i3 (by decide) (fun q => absurd q.1 (by decide)), j3⟩, io, hh⟩
  have i4' : ab_lk (ab_s1 2 (.int D') lv) 4 = some (.int E) := po_s1_other i4 (by decide) (fun q => absurd q.1 (by decide))
  have g := sx_wS_ok (A := po_S (po_lo N (sx_Y 2) (sx_Y 4)) (po_env 15 15 15) (sx_Y 3)) rfl (po_in i' i4' hr ⟨e1, e2⟩ ⟨by omega, by omega⟩)
  have run : sx_run sx_SP sx_KT2 (po_K 15 15 15 []) ab_M_X5_putInOrder [(77, po_S (po_lo N (sx_Y 2) (sx_Y 4)) (po_env 15 15 15) (1, [(3, 1)]), (0, []))] none 200 56 (po_S (po_lo N (sx_Y 2) (sx_Y 4)) (po_env 15 15 15) (sx_Y 3)) = true := by
    rcases hN with e | e <;> subst e
    · exact po_56_41
    · exact po_56_52
  refine sx_seg (K := po_K 15 15 15 []) (β0 := po_b D'.toInt r (po_pc D.toBitVec 16) E.toInt) (h0 := h0) T hd (po_O0 _ _ _) po_Q0 (fun b hb β lv' st h' g' hag hfr' => ?_) 200 56 _ _ _ [] h run g sx_ag.rf (Nat.le_refl _) hfr
  rw [List.mem_singleton] at hb
  subst hb
  obtain ⟨rfl, i2'⟩ := po_out9 g' po_lsub hag rfl rfl
  obtain ⟨E', j4, je⟩ := po_out4 g' hag rfl
  rw [po_e2, po_e31] at i2'
  rw [po_e4] at je
  have e : E' = E := Int32.toInt_inj.mp je
  subst e
  refine H77 D' lv' h' ?_ j4 hfr'
  rw [hpc]
  exact i2'
/-- from the inner head on -/
theorem po_20 (hN : N = 41 ∨ N = 52) (T : po_T z L xs) (hd : 2 ≤ d) {r : Int} (hr : 0 ≤ r ∧ r ≤ 15)
    (H9 : ∀ (D : Int32) (lv : ab_L) (h : ab_H), po_I9 z L xs N lv h D (r + 1) (po_pc D.toBitVec 16) → sx_fr [3847, 4349, 4351] h0 h → ab_go d ab_M_X5_putInOrder 9 lv [] h Q) :
    ∀ (k : Nat) (D E : Int32) (lv : ab_L) (h : ab_H), 16 - E.toInt ≤ k → 0 ≤ E.toInt → E.toInt ≤ 16 → po_I9 z L xs N lv h D r (po_pc D.toBitVec 16) → ab_lk lv 4 = some (.int E) → sx_fr [3847, 4349, 4351] h0 h → ab_go d ab_M_X5_putInOrder 20 lv [] h Q := by
  intro k
  induction k with
  | zero =>
    intro D E lv h hk e1 e2 i i4 hfr
    have hp := po_pc_le D.toBitVec 16
    have g := sx_wS_ok (A := po_S (po_lo N (sx_Y 2) (sx_Y 4)) (po_env 15 16 16) (sx_Y 3)) rfl (po_in i i4 hr ⟨e1, e2⟩ ⟨by omega, by omega⟩)
    have run : sx_run sx_SP sx_KT2 (po_K 15 16 16 []) ab_M_X5_putInOrder [(29, po_S (po_lo N (sx_Y 2) (sx_Y 4)) (po_env 15 15 16) (sx_Y 3), (0, [])), (9, po_S (po_l9 N (1, [(2, 1)])) (po_env 15 16 16) (sx_Y 3), (0, []))] none 200 20 (po_S (po_lo N (sx_Y 2) (sx_Y 4)) (po_env 15 16 16) (sx_Y 3)) = true := by
      rcases hN with e | e <;> subst e
      · exact po_20_41
      · exact po_20_52
    refine sx_seg (K := po_K 15 16 16 []) (β0 := po_b D.toInt r (po_pc D.toBitVec 16) E.toInt) (h0 := h0) T hd (po_O0 _ _ _) po_Q0 (fun b hb β lv' st h' g' hag hfr' => ?_) 200 20 _ _ lv [] h run g sx_ag.rf (Nat.le_refl _) hfr
    rcases List.mem_cons.mp hb with rfl | hb
    · have h4 := g'.2.2.2.2.1 (4, 0, 15) (List.mem_cons_of_mem _ (List.mem_cons_of_mem _ (List.mem_cons_of_mem _ List.mem_cons_self)))
      have h5 : β 4 = E.toInt := hag 4 (by decide)
      dsimp only at h4
      omega
    · rw [List.mem_singleton] at hb
      subst hb
      obtain ⟨rfl, i'⟩ := po_out9 g' (fun q hq => hq) hag rfl rfl
      rw [po_e21, po_e3] at i'
      exact H9 D lv' h' i' hfr'
  | succ k ih =>
    intro D E lv h hk e1 e2 i i4 hfr
    have hp := po_pc_le D.toBitVec 16
    have g := sx_wS_ok (A := po_S (po_lo N (sx_Y 2) (sx_Y 4)) (po_env 15 16 16) (sx_Y 3)) rfl (po_in i i4 hr ⟨e1, e2⟩ ⟨by omega, by omega⟩)
    have run : sx_run sx_SP sx_KT2 (po_K 15 16 16 []) ab_M_X5_putInOrder [(29, po_S (po_lo N (sx_Y 2) (sx_Y 4)) (po_env 15 15 16) (sx_Y 3), (0, [])), (9, po_S (po_l9 N (1, [(2, 1)])) (po_env 15 16 16) (sx_Y 3), (0, []))] none 200 20 (po_S (po_lo N (sx_Y 2) (sx_Y 4)) (po_env 15 16 16) (sx_Y 3)) = true := by
      rcases hN with e | e <;> subst e
      · exact po_20_41
      · exact po_20_52
    refine sx_seg (K := po_K 15 16 16 []) (β0 := po_b D.toInt r (po_pc D.toBitVec 16) E.toInt) (h0 := h0) T hd (po_O0 _ _ _) po_Q0 (fun b hb β lv' st h' g' hag hfr' => ?_) 200 20 _ _ lv [] h run g sx_ag.rf (Nat.le_refl _) hfr
    rcases List.mem_cons.mp hb with rfl | hb
    · have h4 := g'.2.2.2.2.1 (4, 0, 15) (List.mem_cons_of_mem _ (List.mem_cons_of_mem _ (List.mem_cons_of_mem _ List.mem_cons_self)))
      have h5 : β 4 = E.toInt := hag 4 (by decide)
      dsimp only at h4
      have e3 : E.toInt ≤ 15 := by omega
      obtain ⟨rfl, i'⟩ := po_out9 g' po_lsub hag rfl rfl
      obtain ⟨E', j4, je⟩ := po_out4 g' hag rfl
      rw [po_e2, po_e3] at i'
      rw [po_e4] at je
      have e : E' = E := Int32.toInt_inj.mp je
      subst e
      have H77 : ∀ (D' : Int32) (lv : ab_L) (h : ab_H), po_I9 z L xs N lv h D' r (po_pc D'.toBitVec 16) → ab_lk lv 4 = some (.int E') → sx_fr [3847, 4349, 4351] h0 h → ab_go d ab_M_X5_putInOrder 77 lv [] h Q := fun D' lv h i i4 hfr => po_77 hN T hd hr e1 e3 i i4 hfr (fun E2 lv h he i i4 hfr => ih D' E2 lv h (by omega) (by omega) (by omega) i i4 hfr)
      have i2 := i'
      obtain ⟨i0, i1, i2', i3, io, hh⟩ := i2
      show ab_go d ab_M_X5_putInOrder 29 lv' [] h' Q
      refine go_s (pc' := 30) (lv' := lv') (st' := [.int D]) (h' := h') rfl rfl (po_ild (nL := 0) i2') ?_
      refine go_s (pc' := 32) (lv' := lv') (st' := [.int E', .int D]) (h' := h') rfl rfl (po_ild (nL := 0) j4) ?_
      refine go_s (pc' := 33) (lv' := lv') (st' := [.int (D >>> (E' &&& 31))]) (h' := h') rfl rfl rfl ?_
      refine go_s (pc' := 34) (lv' := lv') (st' := [.int 1, .int (D >>> (E' &&& 31))]) (h' := h') rfl rfl rfl ?_
      refine go_s (pc' := 35) (lv' := lv') (st' := [.int ((D >>> (E' &&& 31)) &&& 1)]) (h' := h') rfl rfl rfl ?_
      refine go_if (c := .ne) (off := 42) (tgt := 77) rfl rfl (fun _ => H77 D lv' h' i' j4 hfr') (fun hc => ?_)
      have hz : ((D >>> (E' &&& 31)) &&& 1).toInt = 0 := Classical.byContradiction hc
      have hbit := (po_shr e1 e3).mp hz
      have g2 := sx_wS_ok (A := po_S (po_lo N (sx_Y 2) (sx_Y 4)) (po_env 15 15 16) (sx_Y 3)) rfl (po_in i' j4 hr ⟨e1, e3⟩ ⟨by omega, by omega⟩)
      have run2 : sx_run sx_SP sx_KT2 (po_K 15 15 16 []) ab_M_X5_putInOrder [(49, po_S (po_lo N (sx_Y 2) (sx_Y 4)) (po_env 15 15 16) (sx_Y 3), (0, [])), (77, po_S (po_lo N (sx_Y 2) (sx_Y 4)) (po_env 15 15 16) (sx_Y 3), (0, []))] none 200 38 (po_S (po_lo N (sx_Y 2) (sx_Y 4)) (po_env 15 15 16) (sx_Y 3)) = true := by
        rcases hN with e | e <;> subst e
        · exact po_38_41
        · exact po_38_52
      refine sx_seg (K := po_K 15 15 16 []) (β0 := po_b D.toInt r (po_pc D.toBitVec 16) E'.toInt) (h0 := h0) T hd (po_O0 _ _ _) po_Q0 (fun b hb β lv' st h' g' hag hfr' => ?_) 200 38 _ _ lv' [] h' run2 g2 sx_ag.rf (Nat.le_refl _) hfr'
      have fin : ∀ {lv : ab_L} {st : List Value} {h : ab_H}, sx_at sx_SP z L xs (po_S (po_lo N (sx_Y 2) (sx_Y 4)) (po_env 15 15 16) (sx_Y 3)) β lv st h → st = [] ∧ po_I9 z L xs N lv h D r (po_pc D.toBitVec 16) ∧ ab_lk lv 4 = some (.int E') := fun g' => by
        obtain ⟨rfl, i'⟩ := po_out9 g' po_lsub hag rfl rfl
        obtain ⟨E2, m4, je⟩ := po_out4 g' hag rfl
        rw [po_e2, po_e3] at i'
        rw [po_e4] at je
        have e : E2 = E' := Int32.toInt_inj.mp je
        rw [e] at m4
        exact ⟨rfl, i', m4⟩
      rcases List.mem_cons.mp hb with rfl | hb
      · obtain ⟨rfl, k1, k2⟩ := fin g'
        exact po_49 hN T hd hr e1 e3 hbit k1 k2 hfr' H77
      · rw [List.mem_singleton] at hb
        subst hb
        obtain ⟨rfl, k1, k2⟩ := fin g'
        exact H77 D _ _ k1 k2 hfr'
    · rw [List.mem_singleton] at hb
      subst hb
      obtain ⟨rfl, i'⟩ := po_out9 g' (fun q hq => hq) hag rfl rfl
      rw [po_e21, po_e3] at i'
      exact H9 D lv' h' i' hfr'
theorem po_9 (hN : N = 41 ∨ N = 52) (T : po_T z L xs) (hd : 2 ≤ d) (hQ : ∀ β0 r h', sx_post sx_SP z L xs (po_K 16 0 16 po_os) β0 h0 r h' → Q r h') :
    ∀ (k : Nat) (r : Int) (D : Int32) (lv : ab_L) (h : ab_H), 16 - r ≤ k → 0 ≤ r → r ≤ 16 → po_I9 z L xs N lv h D r (po_pc D.toBitVec 16) → sx_fr [3847, 4349, 4351] h0 h → ab_go d ab_M_X5_putInOrder 9 lv [] h Q := by
  intro k
  induction k with
  | zero =>
    intro r D lv h hk r1 r2 i hfr
    have hp := po_pc_le D.toBitVec 16
    have g := sx_wS_ok (A := po_S (po_l9 N (sx_Y 2)) (po_env 16 0 16) (sx_Y 3)) rfl (po_in9 (e := 0) i ⟨r1, r2⟩ ⟨by omega, by omega⟩ ⟨by omega, by omega⟩)
    have run : sx_run sx_SP sx_KT2 (po_K 16 0 16 po_os) ab_M_X5_putInOrder [(20, po_S (po_lo N (sx_Y 2) (0, [])) (po_env 15 0 16) (sx_Y 3), (0, []))] none 200 9 (po_S (po_l9 N (sx_Y 2)) (po_env 16 0 16) (sx_Y 3)) = true := by
      rcases hN with e | e <;> subst e
      · exact po_9_41
      · exact po_9_52
    refine sx_seg (K := po_K 16 0 16 po_os) (β0 := po_b D.toInt r (po_pc D.toBitVec 16) 0) (h0 := h0) T hd (po_O1 _ _ _) (hQ _) (fun b hb β lv' st h' g' hag hfr' => ?_) 200 9 _ _ lv [] h run g sx_ag.rf (Nat.le_refl _) hfr
    rw [List.mem_singleton] at hb
    subst hb
    have h4 := g'.2.2.2.2.1 (2, 0, 15) (List.mem_cons_of_mem _ List.mem_cons_self)
    have h5 : β 2 = r := hag 2 (by decide)
    dsimp only at h4
    omega
  | succ k ih =>
    intro r D lv h hk r1 r2 i hfr
    have hp := po_pc_le D.toBitVec 16
    have g := sx_wS_ok (A := po_S (po_l9 N (sx_Y 2)) (po_env 16 0 16) (sx_Y 3)) rfl (po_in9 (e := 0) i ⟨r1, r2⟩ ⟨by omega, by omega⟩ ⟨by omega, by omega⟩)
    have run : sx_run sx_SP sx_KT2 (po_K 16 0 16 po_os) ab_M_X5_putInOrder [(20, po_S (po_lo N (sx_Y 2) (0, [])) (po_env 15 0 16) (sx_Y 3), (0, []))] none 200 9 (po_S (po_l9 N (sx_Y 2)) (po_env 16 0 16) (sx_Y 3)) = true := by
      rcases hN with e | e <;> subst e
      · exact po_9_41
      · exact po_9_52
    refine sx_seg (K := po_K 16 0 16 po_os) (β0 := po_b D.toInt r (po_pc D.toBitVec 16) 0) (h0 := h0) T hd (po_O1 _ _ _) (hQ _) (fun b hb β lv' st h' g' hag hfr' => ?_) 200 9 _ _ lv [] h run g sx_ag.rf (Nat.le_refl _) hfr
    rw [List.mem_singleton] at hb
    subst hb
    have h4 := g'.2.2.2.2.1 (2, 0, 15) (List.mem_cons_of_mem _ List.mem_cons_self)
    have h5 : β 2 = r := hag 2 (by decide)
    dsimp only at h4
    obtain ⟨rfl, i'⟩ := po_out9 g' po_lsub hag rfl rfl
    obtain ⟨E, j4, je⟩ := po_out4 g' hag rfl
    rw [po_e2, po_e3] at i'
    have je : E.toInt = 0 := je
    exact po_20 hN T hd ⟨r1, by omega⟩ (fun D lv h i hfr => ih (r + 1) D lv h (by omega) (by omega) (by omega) i hfr) 16 D E lv' h' (by omega) (by omega) (by omega) i' j4 hfr'
theorem po_go (hN : N = 41 ∨ N = 52) (T : po_T z L xs) (hd : 2 ≤ d) {h : ab_H} (hh : sx_h sx_SP z L xs h) : ab_go d ab_M_X5_putInOrder 0 [(0, .ref 30), (1, .ref N)] [] h (fun r h' => ∃ β0, sx_post sx_SP z L xs (po_K 16 0 16 po_os) β0 h r h') := by
  have g : sx_at sx_SP z L xs ([(0, .inr (1, 30)), (1, .inr (1, N))], [], [], [], po_env 0 0 0, [], 5) (fun _ => 0) [(0, .ref 30), (1, .ref N)] [] h := by
    refine ⟨fun q hq => ?_, trivial, fun q hq => (by cases hq), fun q hq => (by cases hq), fun q hq => ?_, fun q hq => (by cases hq), hh⟩
    · rcases List.mem_cons.mp hq with rfl | hq
      · exact ⟨_, rfl, rfl⟩
      · rw [List.mem_singleton] at hq
        subst hq
        exact ⟨_, rfl, rfl⟩
    · rcases List.mem_cons.mp hq with rfl | hq
      · show -2147483648 ≤ (0 : Int) ∧ (0 : Int) ≤ 2147483647
        decide
      rcases List.mem_cons.mp hq with rfl | hq
      · exact ⟨Int.le_refl _, Int.le_refl _⟩
      rcases List.mem_cons.mp hq with rfl | hq
      · exact ⟨Int.le_refl _, Int.le_refl _⟩
      rcases List.mem_cons.mp hq with rfl | hq
      · exact ⟨Int.le_refl _, Int.le_refl _⟩
      cases hq
  have run : sx_run sx_SP sx_KT2 (po_K 0 0 0 []) ab_M_X5_putInOrder [(9, po_S [(0, .inr (1, 30)), (1, .inr (1, N)), (2, .inl (0, (0, []))), (3, .inl (0, (0, [])))] (po_env 0 0 0) (0, []), (0, []))] none 200 0 ([(0, .inr (1, 30)), (1, .inr (1, N))], [], [], [], po_env 0 0 0, [], 5) = true := by
    rcases hN with e | e <;> subst e
    · exact po_0_41
    · exact po_0_52
  refine sx_seg (K := po_K 0 0 0 []) (β0 := fun _ => 0) (h0 := h) T hd (po_O0 _ _ _) po_Q0 (fun b hb β lv' st h' g' hag hfr' => ?_) 200 0 _ _ _ [] h run (sx_wS_ok rfl g) sx_ag.rf (Nat.le_refl _) sx_fr.rf
  rw [List.mem_singleton] at hb
  subst hb
  obtain ⟨g1, g2, g3, -, -, -, hh'⟩ := g'
  have hst : st = [] := by
    cases st with
    | nil => rfl
    | cons _ _ => exact g2.elim
  subst hst
  have k0 : ∀ {β : Nat → Int} {w : Value}, sx_v β (.inl (0, (0, []))) w → w = .int 0 := fun {β w} hv => by
    cases w with
    | int x =>
      have e : x.toInt = sx_ev β (0, []) := hv
      rw [show sx_ev β (0, []) = 0 from sx_ev_K β 0] at e
      rw [show x = 0 from Int32.toInt_inj.mp e]
    | _ => exact hv.elim
  obtain ⟨w0, a0, v0⟩ := g1 (0, .inr (1, 30)) List.mem_cons_self
  obtain ⟨w1, a1, v1⟩ := g1 (1, .inr (1, N)) (List.mem_cons_of_mem _ List.mem_cons_self)
  obtain ⟨w2, a2, v2⟩ := g1 (2, .inl (0, (0, []))) (List.mem_cons_of_mem _ (List.mem_cons_of_mem _ List.mem_cons_self))
  obtain ⟨w3, a3, v3⟩ := g1 (3, .inl (0, (0, []))) (List.mem_cons_of_mem _ (List.mem_cons_of_mem _ (List.mem_cons_of_mem _ List.mem_cons_self)))
  obtain ⟨wo, ao, vo⟩ := g3 _ List.mem_cons_self
  have e2 := k0 v2
  have e3 := k0 v3
  have eo := k0 vo
  subst e2 e3 eo
  refine po_9 hN T hd (fun β0 r h' hp => ⟨β0, hp⟩) 16 0 0 lv' h' (by decide) (by decide) (by decide) ⟨?_, ?_, a2, ⟨0, a3, rfl⟩, ⟨0, ao, by decide⟩, hh'⟩ hfr'
  · cases w0 with
    | ref b => have e : (30 : Nat) = b := v0; rw [e]; exact a0
    | _ => exact v0.elim
  · cases w1 with
    | ref b => have e : N = b := v1; rw [e]; exact a1
    | _ => exact v1.elim
theorem po_holds (hN : N = 41 ∨ N = 52) (K : sx_KK) (hK : K = (65, ([], [.inr (1, 30), .inr (1, N)], [], [], [], [], 1), [3847, 4349, 4351], 2, [([], [.inl (0, (0, [(1, 1)]))], [], [], [(1, 0, 1)], [], 2)])) (T : po_T z L xs) : sx_holds sx_SP z L xs K := by
  subst hK
  refine ⟨⟨rfl, rfl⟩, fun M hM d hd β As h g => ?_⟩
  have e : M = ab_M_X5_putInOrder := Option.some.inj (hM.symm.trans (show ab_G 65 = some ab_M_X5_putInOrder from rfl))
  subst e
  obtain ⟨-, g2, -, -, -, -, hh⟩ := g
  have hAs : As = [.ref 30, .ref N] := by
    obtain ⟨q, rfl, h1⟩ := sx_pr (β := β) (nx := 0) (st := As) (a := 30) (r := [.inr (1, N)]) (fun β' _ => by
      have k : ∀ {vs : List sx_V} {ws : List Value}, vs.all (sx_wV 0) = true → sx_st β vs ws → sx_st β' vs ws := fun hv hw => (sx_st_ag (n := 0) (fun s hs => absurd hs (Nat.not_lt_zero _)) hv).mpr hw
      exact k rfl g2)
    obtain ⟨q2, rfl, h2⟩ := sx_pr h1
    have : q2 = [] := by
      have := sx_st_len (h2 β sx_ag.rf)
      cases q2 with
      | nil => rfl
      | cons _ _ => cases this
    rw [this]
  subst hAs
  refine (po_go hN T hd hh).mono (fun r h' hp => ?_)
  obtain ⟨β0, O, hO, β1, a1, a2, a3⟩ := hp
  rw [show (po_K 16 0 16 po_os).2.2.2.2 = po_os from rfl, show po_os = [([], [.inl (0, (0, [(5, 1)]))], [], [], [(5, 0, 1)], [], 6)] from rfl, List.mem_singleton] at hO
  subst hO
  refine ⟨_, List.mem_cons_self, sx_bu β 1 (β1 5), sx_bu_ag, ?_, a3⟩
  have e1 : sx_bu β 1 (β1 5) 1 = β1 5 := if_pos rfl
  obtain ⟨b1, b2, -, -, b5, -, bh⟩ := a2
  refine ⟨fun q hq => (by cases hq), ?_, fun q hq => (by cases hq), fun q hq => (by cases hq), fun q hq => ?_, fun q hq => (by cases hq), bh⟩
  · cases hr : r.toList with
    | nil => rw [hr] at b2; exact b2.elim
    | cons w ws =>
      rw [hr] at b2
      refine ⟨?_, ?_⟩
      · have b3 := b2.1
        cases w with
        | int x =>
          have e : x.toInt = sx_ev β1 (0, [(5, 1)]) := b3
          show x.toInt = sx_ev _ (0, [(1, 1)])
          rw [e, show sx_ev β1 (0, [(5, 1)]) = β1 5 from sx_ev_Y β1 5, show sx_ev (sx_bu β 1 (β1 5)) (0, [(1, 1)]) = sx_bu β 1 (β1 5) 1 from sx_ev_Y _ 1, e1]
        | _ => exact b3.elim
      · cases ws with
        | nil => trivial
        | cons _ _ => exact b2.2.elim
  · rw [List.mem_singleton] at hq
    subst hq
    show 0 ≤ sx_bu β 1 (β1 5) 1 ∧ sx_bu β 1 (β1 5) 1 ≤ 1
    rw [e1]
    exact b5 (5, 0, 1) List.mem_cons_self
end PO
theorem po_h41 {z L : Nat} {xs : Nat → Int32} (T : po_T z L xs) : sx_holds sx_SP z L xs kg_X5_putInOrder_0 := po_holds (N := 41) (Or.inl rfl) _ rfl T
theorem po_h52 {z L : Nat} {xs : Nat → Int32} (T : po_T z L xs) : sx_holds sx_SP z L xs kg_X5_putInOrder_1 := po_holds (N := 52) (Or.inr rfl) _ rfl T
