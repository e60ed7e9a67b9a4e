/-! ===== pieces of a run: by the checker, with an end of one's own ===== -/
theorem ab_go.mono {d : Nat} {M : ab_M} {pc : Nat} {lv : ab_L} {st : List Value} {h : ab_H} {P Q : Option Value → ab_H → Prop} (g : ab_go d M pc lv st h P) (k : ∀ r h', P r h' → Q r h') : ab_go d M pc lv st h Q := by
  obtain ⟨n, r, hF, h1, h2⟩ := g
  exact ⟨n, r, hF, h1, k r hF h2⟩
section SXH
variable {SP : List sx_C} {z L : Nat} {xs : Nat → Int32} {Mo : List Nat} {β β' : Nat → Int} {A B : sx_S} {lv lv' : ab_L} {st st' : List Value} {h h' : ab_H} {l : List (Nat × sx_S)} {pc p n i nL nx d : Nat} {M : ab_M} {Q : Option Value → ab_H → Prop}
theorem sx_seg {KT : sx_TT} {K : sx_KK} {an : List sx_AA} {β0 : Nat → Int} {h0 : ab_H} (hKT : ∀ K', sx_mem KT K' → K'.2.2.2.1 < K.2.2.2.1 → sx_holds SP z L xs K') (hd : K.2.2.2.1 ≤ d) (hO : ∀ O ∈ K.2.2.2.2, O.1 = []) (hQ : ∀ r h', sx_post SP z L xs K β0 h0 r h' → Q r h')
    (IH : ∀ b ∈ an, ∀ β lv st h, sx_at SP z L xs b.2.1 β lv st h → sx_ag (sx_nx K.2.1) β0 β → sx_fr K.2.2.1 h0 h → ab_go d M b.1 lv st h Q) :
    ∀ (n pc : Nat) (A : sx_S) (β : Nat → Int) (lv : ab_L) (st : List Value) (h : ab_H), sx_run SP KT K M an none n pc A = true → sx_ok SP z L xs A β lv st h → sx_ag (sx_nx K.2.1) β0 β → sx_nx K.2.1 ≤ sx_nx A → sx_fr K.2.2.1 h0 h → ab_go d M pc lv st h Q := by
  intro n
  induction n with
  | zero => intro pc A β lv st h hr; cases hr
  | succ n ih =>
    intro pc A β lv st h hr g hag hn hfr
    have nxt : ∀ (q : Nat × sx_S) (β2 : Nat → Int) (lv2 : ab_L) (st2 : List Value) (h2 : ab_H), sx_nxt SP (sx_nx K.2.1) an none (sx_run SP KT K M an none n) q = true → sx_nx A ≤ sx_nx q.2 → sx_ag (sx_nx A) β β2 → sx_ok SP z L xs q.2 β2 lv2 st2 h2 → sx_fr K.2.2.1 h h2 → ab_go d M q.1 lv2 st2 h2 Q := fun q β2 lv2 st2 h2 hq hnx hag2 g2 hf2 => by
      have hag3 : sx_ag (sx_nx K.2.1) β0 β2 := hag.tr hag2 hn
      unfold sx_nxt at hq
      split at hq
      · obtain ⟨b, hb, hb2⟩ := List.any_eq_true.mp hq
        rw [Bool.and_eq_true] at hb2
        have e : b.1 = q.1 := eq_of_beq hb2.1
        obtain ⟨β1, a1, a2, a3⟩ := sx_arr_ok g2 (Nat.le_trans hn hnx) hb2.2
        rw [← e]
        exact IH b hb β1 lv2 st2 h2 a2 (hag3.tr a1 (Nat.le_refl _)) (hfr.tr hf2)
      · exact ih q.1 q.2 β2 lv2 st2 h2 hq g2 hag3 (Nat.le_trans hn hnx) (hfr.tr hf2)
    unfold sx_run at hr
    split at hr
    · cases hr
    · rename_i it hit
      split at hr
      · rename_i hk0
        split at hr
        · cases hr
        · rename_i l hl
          obtain ⟨pc', lv', st', h', B, β2, t1, t2, t3, t4, t5, t6⟩ := sx_sp_ok (z := z) (L := L) (xs := xs) g hl
          exact go_s hit hk0 t1 (nxt (pc', B) β2 lv' st' h' (List.all_eq_true.mp hr _ t2) t3 t4 t5 t6)
      · rename_i hk1
        exact (sx_rt_ok g hn hag hfr hO hit hk1 hr).mono hQ
      · rename_i hk2
        split at hr
        · cases hr
        · rename_i bs hbs
          exact sx_call_ok hKT hd g hit hk2 hbs (fun B hB β2 st' h' k1 k2 k3 k4 => nxt (pc + 3, B) β2 lv st' h' (List.all_eq_true.mp hr B hB) k1 k2 k3 k4)
      · rename_i hk4
        split at hr
        · cases hr
        · rename_i l hl
          rw [Bool.and_eq_true, decide_eq_true_eq] at hr
          obtain ⟨pc', lv', st', h', B, β2, t1, t2, t3, t4, t5, t6⟩ := sx_sp_ok (z := z) (L := L) (xs := xs) g hl
          obtain ⟨d', rfl⟩ : ∃ d', d = d' + 1 := ⟨d - 1, by omega⟩
          exact sx_go4 hit hk4 t1 (nxt (pc', B) β2 lv' st' h' (List.all_eq_true.mp hr.1 _ t2) t3 t4 t5 t6)
      · cases hr
end SXH
/-! ===== lowest ===== -/
theorem lo_least {P : Nat → Prop} (hP : ∀ j, P j ∨ ¬ P j) : ∀ (n : Nat), (∃ j, j < n ∧ P j) → ∃ k, k < n ∧ P k ∧ ∀ j, j < k → ¬ P j
  | 0, h => by
    obtain ⟨j, h1, -⟩ := h
    omega
  | n + 1, h => by
    by_cases h2 : ∃ j, j < n ∧ P j
    · obtain ⟨k, k1, k2, k3⟩ := lo_least hP n h2
      exact ⟨k, by omega, k2, k3⟩
    · obtain ⟨j, j1, j2⟩ := h
      refine ⟨j, j1, j2, fun i hi q => h2 ⟨i, by omega, q⟩⟩
/-- the lowest bit of an int -/
theorem lo_bit (x : Int32) (h1 : 1 ≤ x.toInt) (h2 : x.toInt ≤ 65535) : ∃ k, k < 16 ∧ x.toBitVec.getLsbD k = true ∧ ∀ j, j < k → ¬ x.toBitVec.getLsbD j = true := by
  obtain ⟨h3, h4⟩ := sx_nn (x := x.toBitVec) (show 0 ≤ x.toBitVec.toInt from by have : x.toInt = x.toBitVec.toInt := rfl; omega)
  have h5 : x.toInt = x.toBitVec.toInt := rfl
  refine lo_least (P := fun j => x.toBitVec.getLsbD j = true) (fun j => by cases x.toBitVec.getLsbD j <;> simp) 16 ?_
  refine Classical.byContradiction fun hn => ?_
  have h6 : x.toBitVec = 0#32 := by
    apply BitVec.eq_of_getLsbD_eq
    intro i hi
    rw [BitVec.getLsbD_zero]
    by_cases hi6 : i < 16
    · cases hb : x.toBitVec.getLsbD i with
      | false => rfl
      | true => exact absurd ⟨i, hi6, hb⟩ hn
    · rw [← BitVec.testBit_toNat]
      refine Nat.testBit_lt_two_pow (Nat.lt_of_lt_of_le (show x.toBitVec.toNat < 2 ^ 16 by omega) (Nat.pow_le_pow_right (by decide) (by omega)))
  rw [h6] at h3
  simp at h3
  rw [h6] at h5
  simp at h5
  omega
theorem lo_and {x : BitVec 32} {k : Nat} (hk : k < 32) (h1 : x.getLsbD k = true) (h2 : ∀ j, j < k → ¬ x.getLsbD j = true) : x &&& -x = BitVec.twoPow 32 k := by
  apply BitVec.eq_of_getLsbD_eq
  intro i hi
  rw [BitVec.getLsbD_and, BitVec.getLsbD_neg, BitVec.getLsbD_twoPow, decide_eq_true hi, decide_eq_true hk, Bool.true_and, Bool.true_and]
  by_cases e : k = i
  · subst e
    rw [h1, decide_eq_false (fun ⟨j, j1, j2⟩ => h2 j j1 j2)]
    simp
  · rw [decide_eq_false (fun q => e q)]
    by_cases hlt : i < k
    · cases hb : x.getLsbD i with
      | false => rfl
      | true => exact absurd hb (h2 i hlt)
    · rw [decide_eq_true (show ∃ j, j < i ∧ x.getLsbD j = true from ⟨k, by omega, h1⟩)]
      cases x.getLsbD i <;> rfl
theorem lo_low (x : Int32) (h1 : 1 ≤ x.toInt) (h2 : x.toInt ≤ 65535) : ∃ k, k < 16 ∧ (x &&& -x) - 1 = Int32.ofNat (2 ^ k - 1) := by
  obtain ⟨k, k1, k2, k3⟩ := lo_bit x h1 h2
  refine ⟨k, k1, ?_⟩
  have h3 : x &&& -x = Int32.ofNat (2 ^ k) := by
    apply Int32.toBitVec_inj.mp
    show x.toBitVec &&& -x.toBitVec = _
    rw [lo_and (by omega) k2 k3]
    have key : ∀ k, k < 16 → BitVec.twoPow 32 k = (Int32.ofNat (2 ^ k)).toBitVec := by decide
    exact key k k1
  rw [h3]
  have key : ∀ k, k < 16 → Int32.ofNat (2 ^ k) - 1 = Int32.ofNat (2 ^ k - 1) := by decide
  exact key k k1
def lo_u (x k : Int32) : Int32 := (x.toUInt32 >>> (k.toUInt32 &&& Int32.toUInt32 31)).toInt32
def lo_1 (x : Int32) : Int32 := x - (lo_u x 1 &&& 1431655765)
def lo_2 (x : Int32) : Int32 := (x &&& 858993459) + (lo_u x 2 &&& 858993459)
def lo_3 (x : Int32) : Int32 := (x + lo_u x 4) &&& 252645135
def lo_4 (x : Int32) : Int32 := x + lo_u x 8
def lo_5 (x : Int32) : Int32 := x + lo_u x 16
def lo_6 (x : Int32) : Int32 := x &&& 63
def lo_f (x : Int32) : Int32 := lo_6 (lo_5 (lo_4 (lo_3 (lo_2 (lo_1 x)))))
theorem lo_fk : ∀ k, k < 16 → lo_f (Int32.ofNat (2 ^ k - 1)) = Int32.ofNat k := by decide +kernel
theorem lo_bc (x : Int32) (d : Nat) (h : ab_H) : ab_go d ab_M_J6_bitCount_0f7a4 0 [(0, .int x)] [] h (fun r h' => r = some (.int (lo_f x)) ∧ h' = h) := by
  refine go_s (pc' := 1) (lv' := [(0, .int x)]) (st' := [.int (x)]) (h' := h) rfl rfl rfl ?_
  refine go_s (pc' := 2) (lv' := [(0, .int x)]) (st' := [.int (x), .int (x)]) (h' := h) rfl rfl rfl ?_
  refine go_s (pc' := 3) (lv' := [(0, .int x)]) (st' := [.int (1), .int (x), .int (x)]) (h' := h) rfl rfl rfl ?_
  refine go_s (pc' := 4) (lv' := [(0, .int x)]) (st' := [.int (lo_u x 1), .int (x)]) (h' := h) rfl rfl rfl ?_
  refine go_s (pc' := 7) (lv' := [(0, .int x)]) (st' := [.int (1431655765), .int (lo_u x 1), .int (x)]) (h' := h) rfl rfl rfl ?_
  refine go_s (pc' := 8) (lv' := [(0, .int x)]) (st' := [.int (lo_u x 1 &&& 1431655765), .int (x)]) (h' := h) rfl rfl rfl ?_
  refine go_s (pc' := 9) (lv' := [(0, .int x)]) (st' := [.int (lo_1 x)]) (h' := h) rfl rfl rfl ?_
  refine go_s (pc' := 10) (lv' := [(0, .int (lo_1 x))]) (st' := []) (h' := h) rfl rfl rfl ?_
  refine go_s (pc' := 11) (lv' := [(0, .int (lo_1 x))]) (st' := [.int ((lo_1 x))]) (h' := h) rfl rfl rfl ?_
  refine go_s (pc' := 14) (lv' := [(0, .int (lo_1 x))]) (st' := [.int (858993459), .int ((lo_1 x))]) (h' := h) rfl rfl rfl ?_
  refine go_s (pc' := 15) (lv' := [(0, .int (lo_1 x))]) (st' := [.int ((lo_1 x) &&& 858993459)]) (h' := h) rfl rfl rfl ?_
  refine go_s (pc' := 16) (lv' := [(0, .int (lo_1 x))]) (st' := [.int ((lo_1 x)), .int ((lo_1 x) &&& 858993459)]) (h' := h) rfl rfl rfl ?_
  refine go_s (pc' := 17) (lv' := [(0, .int (lo_1 x))]) (st' := [.int (2), .int ((lo_1 x)), .int ((lo_1 x) &&& 858993459)]) (h' := h) rfl rfl rfl ?_
  refine go_s (pc' := 18) (lv' := [(0, .int (lo_1 x))]) (st' := [.int (lo_u (lo_1 x) 2), .int ((lo_1 x) &&& 858993459)]) (h' := h) rfl rfl rfl ?_
  refine go_s (pc' := 21) (lv' := [(0, .int (lo_1 x))]) (st' := [.int (858993459), .int (lo_u (lo_1 x) 2), .int ((lo_1 x) &&& 858993459)]) (h' := h) rfl rfl rfl ?_
  refine go_s (pc' := 22) (lv' := [(0, .int (lo_1 x))]) (st' := [.int (lo_u (lo_1 x) 2 &&& 858993459), .int ((lo_1 x) &&& 858993459)]) (h' := h) rfl rfl rfl ?_
  refine go_s (pc' := 23) (lv' := [(0, .int (lo_1 x))]) (st' := [.int (lo_2 (lo_1 x))]) (h' := h) rfl rfl rfl ?_
  refine go_s (pc' := 24) (lv' := [(0, .int (lo_2 (lo_1 x)))]) (st' := []) (h' := h) rfl rfl rfl ?_
  refine go_s (pc' := 25) (lv' := [(0, .int (lo_2 (lo_1 x)))]) (st' := [.int ((lo_2 (lo_1 x)))]) (h' := h) rfl rfl rfl ?_
  refine go_s (pc' := 26) (lv' := [(0, .int (lo_2 (lo_1 x)))]) (st' := [.int ((lo_2 (lo_1 x))), .int ((lo_2 (lo_1 x)))]) (h' := h) rfl rfl rfl ?_
  refine go_s (pc' := 27) (lv' := [(0, .int (lo_2 (lo_1 x)))]) (st' := [.int (4), .int ((lo_2 (lo_1 x))), .int ((lo_2 (lo_1 x)))]) (h' := h) rfl rfl rfl ?_
  refine go_s (pc' := 28) (lv' := [(0, .int (lo_2 (lo_1 x)))]) (st' := [.int (lo_u (lo_2 (lo_1 x)) 4), .int ((lo_2 (lo_1 x)))]) (h' := h) rfl rfl rfl ?_
  refine go_s (pc' := 29) (lv' := [(0, .int (lo_2 (lo_1 x)))]) (st' := [.int ((lo_2 (lo_1 x)) + lo_u (lo_2 (lo_1 x)) 4)]) (h' := h) rfl rfl rfl ?_
  refine go_s (pc' := 32) (lv' := [(0, .int (lo_2 (lo_1 x)))]) (st' := [.int (252645135), .int ((lo_2 (lo_1 x)) + lo_u (lo_2 (lo_1 x)) 4)]) (h' := h) rfl rfl rfl ?_
  refine go_s (pc' := 33) (lv' := [(0, .int (lo_2 (lo_1 x)))]) (st' := [.int (lo_3 (lo_2 (lo_1 x)))]) (h' := h) rfl rfl rfl ?_
  refine go_s (pc' := 34) (lv' := [(0, .int (lo_3 (lo_2 (lo_1 x))))]) (st' := []) (h' := h) rfl rfl rfl ?_
  refine go_s (pc' := 35) (lv' := [(0, .int (lo_3 (lo_2 (lo_1 x))))]) (st' := [.int ((lo_3 (lo_2 (lo_1 x))))]) (h' := h) rfl rfl rfl ?_
  refine go_s (pc' := 36) (lv' := [(0, .int (lo_3 (lo_2 (lo_1 x))))]) (st' := [.int ((lo_3 (lo_2 (lo_1 x)))), .int ((lo_3 (lo_2 (lo_1 x))))]) (h' := h) rfl rfl rfl ?_
  refine go_s (pc' := 38) (lv' := [(0, .int (lo_3 (lo_2 (lo_1 x))))]) (st' := [.int (8), .int ((lo_3 (lo_2 (lo_1 x)))), .int ((lo_3 (lo_2 (lo_1 x))))]) (h' := h) rfl rfl rfl ?_
  refine go_s (pc' := 39) (lv' := [(0, .int (lo_3 (lo_2 (lo_1 x))))]) (st' := [.int (lo_u (lo_3 (lo_2 (lo_1 x))) 8), .int ((lo_3 (lo_2 (lo_1 x))))]) (h' := h) rfl rfl rfl ?_
  refine go_s (pc' := 40) (lv' := [(0, .int (lo_3 (lo_2 (lo_1 x))))]) (st' := [.int (lo_4 (lo_3 (lo_2 (lo_1 x))))]) (h' := h) rfl rfl rfl ?_
  refine go_s (pc' := 41) (lv' := [(0, .int (lo_4 (lo_3 (lo_2 (lo_1 x)))))]) (st' := []) (h' := h) rfl rfl rfl ?_
  refine go_s (pc' := 42) (lv' := [(0, .int (lo_4 (lo_3 (lo_2 (lo_1 x)))))]) (st' := [.int ((lo_4 (lo_3 (lo_2 (lo_1 x)))))]) (h' := h) rfl rfl rfl ?_
  refine go_s (pc' := 43) (lv' := [(0, .int (lo_4 (lo_3 (lo_2 (lo_1 x)))))]) (st' := [.int ((lo_4 (lo_3 (lo_2 (lo_1 x))))), .int ((lo_4 (lo_3 (lo_2 (lo_1 x)))))]) (h' := h) rfl rfl rfl ?_
  refine go_s (pc' := 45) (lv' := [(0, .int (lo_4 (lo_3 (lo_2 (lo_1 x)))))]) (st' := [.int (16), .int ((lo_4 (lo_3 (lo_2 (lo_1 x))))), .int ((lo_4 (lo_3 (lo_2 (lo_1 x)))))]) (h' := h) rfl rfl rfl ?_
  refine go_s (pc' := 46) (lv' := [(0, .int (lo_4 (lo_3 (lo_2 (lo_1 x)))))]) (st' := [.int (lo_u (lo_4 (lo_3 (lo_2 (lo_1 x)))) 16), .int ((lo_4 (lo_3 (lo_2 (lo_1 x)))))]) (h' := h) rfl rfl rfl ?_
  refine go_s (pc' := 47) (lv' := [(0, .int (lo_4 (lo_3 (lo_2 (lo_1 x)))))]) (st' := [.int (lo_5 (lo_4 (lo_3 (lo_2 (lo_1 x)))))]) (h' := h) rfl rfl rfl ?_
  refine go_s (pc' := 48) (lv' := [(0, .int (lo_5 (lo_4 (lo_3 (lo_2 (lo_1 x))))))]) (st' := []) (h' := h) rfl rfl rfl ?_
  refine go_s (pc' := 49) (lv' := [(0, .int (lo_5 (lo_4 (lo_3 (lo_2 (lo_1 x))))))]) (st' := [.int ((lo_5 (lo_4 (lo_3 (lo_2 (lo_1 x))))))]) (h' := h) rfl rfl rfl ?_
  refine go_s (pc' := 51) (lv' := [(0, .int (lo_5 (lo_4 (lo_3 (lo_2 (lo_1 x))))))]) (st' := [.int (63), .int ((lo_5 (lo_4 (lo_3 (lo_2 (lo_1 x))))))]) (h' := h) rfl rfl rfl ?_
  refine go_s (pc' := 52) (lv' := [(0, .int (lo_5 (lo_4 (lo_3 (lo_2 (lo_1 x))))))]) (st' := [.int (lo_6 (lo_5 (lo_4 (lo_3 (lo_2 (lo_1 x))))))]) (h' := h) rfl rfl rfl ?_
  exact go_ri (v := lo_f x) rfl rfl ⟨rfl, rfl⟩
theorem lo_holds {z L : Nat} {xs : Nat → Int32} : sx_holds sx_SP z L xs kg_X9_lowest_0 := by
  refine ⟨⟨by decide +kernel, rfl⟩, fun M hM d hd β As h g => ?_⟩
  have e : M = ab_M_X9_lowest := Option.some.inj (hM.symm.trans rfl)
  subst e
  obtain ⟨x, q, rfl, hx, h1⟩ := sx_pi (β := β) (nx := 2) (e := (0, [(1, 1)])) (r := []) (st := As) (fun β' ha => (sx_wS_ok (by decide +kernel) g β' ha).2.1)
  have hq : q = [] := by
    have := sx_st_len (h1 β sx_ag.rf)
    cases q with
    | nil => rfl
    | cons _ _ => cases this
  subst hq
  have hb := g.2.2.2.2.1 (1, 1, 65535) List.mem_cons_self
  have hx0 := hx β sx_ag.rf
  rw [show sx_ev β (0, [(1, 1)]) = β 1 from sx_ev_Y β 1] at hx0
  obtain ⟨k, k1, k2⟩ := lo_low x (by rw [hx0]; exact hb.1) (by rw [hx0]; exact hb.2)
  show ab_go d ab_M_X9_lowest 0 [(0, .int x)] [] h _
  obtain ⟨d', rfl⟩ : ∃ d', d = d' + 1 := ⟨d - 1, by have : (1 : Nat) ≤ d := hd; omega⟩
  refine go_s (pc' := 1) (lv' := [(0, .int x)]) (st' := [.int x]) (h' := h) rfl rfl rfl ?_
  refine go_s (pc' := 2) (lv' := [(0, .int x)]) (st' := [.int x, .int x]) (h' := h) rfl rfl rfl ?_
  refine go_s (pc' := 3) (lv' := [(0, .int x)]) (st' := [.int (-x), .int x]) (h' := h) rfl rfl rfl ?_
  refine go_s (pc' := 4) (lv' := [(0, .int x)]) (st' := [.int (x &&& -x)]) (h' := h) rfl rfl rfl ?_
  refine go_s (pc' := 5) (lv' := [(0, .int x)]) (st' := [.int 1, .int (x &&& -x)]) (h' := h) rfl rfl rfl ?_
  refine go_s (pc' := 6) (lv' := [(0, .int x)]) (st' := [.int (Int32.ofNat (2 ^ k - 1))]) (h' := h) rfl rfl (by rw [← k2]; rfl) ?_
  refine go_c (M' := ab_M_J6_bitCount_0f7a4) (A := [.int (Int32.ofNat (2 ^ k - 1))]) (rest := []) (lv0 := [(0, .int (Int32.ofNat (2 ^ k - 1)))]) (Q' := fun r h' => r = some (.int (Int32.ofNat k)) ∧ h' = h) rfl rfl rfl rfl (by rw [← lo_fk k k1]; exact lo_bc _ d' h) (fun r h' hr => ?_)
  obtain ⟨rfl, rfl⟩ := hr
  refine go_ri (v := Int32.ofNat k) rfl rfl ?_
  refine ⟨_, List.mem_cons_self, sx_bu β 2 k, sx_bu_ag, ?_, sx_fr.rf⟩
  have ek : (Int32.ofNat k).toInt = k := Int32.toInt_ofNat_of_lt (by omega)
  have e2 : sx_bu β 2 k 2 = k := if_pos rfl
  refine ⟨fun q hq => (by cases hq), ⟨?_, trivial⟩, fun q hq => (by cases hq), fun q hq => (by cases hq), fun q hq => ?_, fun q hq => (by cases hq), g.2.2.2.2.2.2⟩
  · show (Int32.ofNat k).toInt = sx_ev _ (0, [(2, 1)])
    rw [show sx_ev (sx_bu β 2 k) (0, [(2, 1)]) = sx_bu β 2 k 2 from sx_ev_Y _ 2, e2, ek]
  · have hq : q ∈ [((2 : Nat), (0 : Int), (15 : Int))] := hq
    rw [List.mem_singleton] at hq
    subst hq
    show 0 ≤ sx_bu β 2 k 2 ∧ sx_bu β 2 k 2 ≤ 15
    rw [e2]
    omega
