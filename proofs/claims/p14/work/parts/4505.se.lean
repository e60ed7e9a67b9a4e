/-! ===== levels: the reference lays one wire's ===== -/
theorem b32_v {x e : Int32} (h : 0 ≤ e.toInt ∧ e.toInt < 32) : ((x >>> (e &&& 31)) &&& 1) = if b32 x e.toNatClampNeg = true then 1 else 0 := by
  have q := b32_t (x := x) h
  have key : ∀ y : Int32, (y &&& 1) = 0 ∨ (y &&& 1) = 1 := fun y => by
    have e1 : (y &&& 1).toInt = y.toInt % 2 := by
      have h0 : (y &&& 1).toBitVec.toNat = y.toBitVec.toNat % 2 := by
        rw [Int32.toBitVec_and, BitVec.toNat_and]
        exact Nat.and_two_pow_sub_one_eq_mod _ 1
      have h1 : (y &&& 1).toInt = (y &&& 1).toBitVec.toInt := rfl
      have h2 : y.toInt = y.toBitVec.toInt := rfl
      rw [h1, h2, BitVec.toInt_eq_toNat_cond, BitVec.toInt_eq_toNat_cond, h0]
      have := y.toBitVec.isLt
      split <;> split <;> omega
    rcases (show y.toInt % 2 = 0 ∨ y.toInt % 2 = 1 by omega) with g | g
    · exact Or.inl (Int32.toInt_inj.mp (by rw [e1, g]; rfl))
    · exact Or.inr (Int32.toInt_inj.mp (by rw [e1, g]; rfl))
  cases hb : b32 x e.toNatClampNeg with
  | false =>
    rw [if_neg (by decide)]
    exact Int32.toInt_inj.mp (q.mpr hb)
  | true =>
    rw [if_pos rfl]
    rcases key (x >>> (e &&& 31)) with g | g
    · rw [q.mp (by rw [g]; rfl)] at hb
      cases hb
    · exact g
theorem b32_xor {x y : Int32} {k : Nat} : b32 (x ^^^ y) k = (b32 x k ^^ b32 y k) := by
  unfold b32
  rw [Int32.toBitVec_xor, BitVec.getLsbD_xor]
theorem b32_m1 {k : Nat} (hk : k < 32) : b32 (-1) k = true := by
  have key : ∀ k, k < 32 → b32 (-1) k = true := by decide
  exact key k hk
def bo (b : Bool) : Int32 := if b = true then 1 else 0
/-- one bit is set to a value -/
theorem b32_set {x e : Int32} {b : Bool} {k : Nat} (h : 0 ≤ e.toInt ∧ e.toInt < 32) (hk : k < 32) : b32 ((x &&& (((1 : Int32) <<< (e &&& 31)) ^^^ -1)) ||| (bo b <<< (e &&& 31))) k = if k = e.toNatClampNeg then b else b32 x k := by
  rw [b32_or, b32_and, b32_xor, b32_m1 hk, b32_1 h hk]
  unfold bo
  by_cases c : k = e.toNatClampNeg
  · rw [if_pos c, decide_eq_true c]
    cases b with
    | true => rw [if_pos rfl, b32_1 h hk, decide_eq_true c]; simp
    | false => rw [if_neg (by decide), sl_0, b32_0]; simp
  · rw [if_neg c, decide_eq_false c]
    cases b with
    | true => rw [if_pos rfl, b32_1 h hk, decide_eq_false c]; simp
    | false => rw [if_neg (by decide), sl_0, b32_0]; simp
theorem nar_01 {t : Nat} : dc_nar t 0 = 0 ∧ dc_nar t 1 = 1 := by
  unfold dc_nar
  split
  · exact ⟨by decide, by decide⟩
  · exact ⟨by decide, by decide⟩
/-- a step from a state by an event to a state -/
def ED (bh : Nat → Int32) (n E i k t : Nat) : Prop := i < n ∧ k < E ∧ t < n ∧ bh (16 * i + k) = Int32.ofNat t
/-- levels of a wire that go for all -/
def VA (bh W R : Nat → Int32) (n E w : Nat) (b : Bool) (l : Nat → Bool) : Prop := l 0 = b ∧ ∀ i k t, ED bh n E i k t → ((W k).toInt = w → l i = !decide (R k = 1) ∧ l t = decide (R k = 1)) ∧ ((W k).toInt ≠ w → l t = l i)
/-- in the middle of the laying: what is laid is right, if anything is -/
def LI (m1 m : dc_M) (bh W R : Nat → Int32) (n E w : Nat) (b : Bool) (good : Int32) : Prop := (∀ c k, c ≠ 101 → c ≠ 102 → m.1 c k = m1.1 c k) ∧ m.2 = m1.2 ∧ (∀ i j, j < 32 → j ≠ w → b32 (m.1 101 i) j = b32 (m1.1 101 i) j) ∧ (m.1 102 0 ≠ 0 ∧ b32 (m.1 101 0) w = b) ∧ (good = 0 ∨ good = 1) ∧ ∀ l, VA bh W R n E w b l → good = 1 ∧ ∀ i, i < n → m.1 102 i ≠ 0 → b32 (m.1 101 i) w = l i
/-- a pass: where nothing new is laid, all steps so far fit -/
def LPs (m : dc_M) (bh W R : Nat → Int32) (n E w : Nat) (good more : Int32) (s e : Nat) : Prop := (more = 0 ∨ more = 1) ∧ (more = 0 → good = 1 → ∀ i k t, ED bh n E i k t → dn s e i k → m.1 102 i ≠ 0 → m.1 102 t ≠ 0 ∧ ((W k).toInt = w → b32 (m.1 101 i) w = !decide (R k = 1) ∧ b32 (m.1 101 t) w = decide (R k = 1)) ∧ ((W k).toInt ≠ w → b32 (m.1 101 t) w = b32 (m.1 101 i) w))
theorem i32_01 {x : Int32} : x.toInt = 0 ↔ x = 0 := ⟨fun h => Int32.toInt_inj.mp h, fun h => by rw [h]; rfl⟩
theorem bo_i {b : Bool} : (bo b).toInt = 0 ↔ b = false := by cases b <;> decide
theorem bo_j {a b : Bool} : (bo a).toInt = (bo b).toInt ↔ a = b := by cases a <;> cases b <;> decide
/-- the pass at a state's event -/
theorem ll_80 {m1 m : dc_M} {n E w S : Nat} {b : Bool} {wI sI good more : Int32} {z : (Int32 × Int32 × Int32 × dc_M) ⊕ ((Int32 × Int32 × dc_M) ⊕ (Int32 × dc_M))} (hw : wI.toInt = w) (hw2 : w < 32) (hs : sI.toInt = S) (hS : S < n) (hn : n ≤ 200) (hE : (m1.1 82 3).toInt = E) (hE2 : E ≤ 16) (hR : ∀ k, k < E → m1.1 86 k = 0 ∨ m1.1 86 k = 1) (hed : ∀ i k : Nat, i < n → k < E → m1.1 100 (16 * i + k) = -4 ∨ ∃ t, t < n ∧ m1.1 100 (16 * i + k) = Int32.ofNat t) (I : LI m1 m (m1.1 100) (m1.1 85) (m1.1 86) n E w b good) (P : LPs m (m1.1 100) (m1.1 85) (m1.1 86) n E w good more S 0) (h : d_X10_layLevels_l80 82 wI sI good more 0 m = some z) : ∃ good' more' m', z = .inl (good', more', sI + 1, m') ∧ LI m1 m' (m1.1 100) (m1.1 85) (m1.1 86) n E w b good' ∧ LPs m' (m1.1 100) (m1.1 85) (m1.1 86) n E w good' more' (S + 1) 0 := by
  have hwn : wI.toNatClampNeg = w := by have := cl_n (x := wI) (by omega); omega
  have hSn : sI.toNatClampNeg = S := by have := cl_n (x := sI) (by omega); omega
  unfold d_X10_layLevels_l80 at h
  refine dc_lp_inv (f := d_X10_layLevels_l80s 82 wI sI) (s := (good, more, 0, m)) (fun p : Int32 × Int32 × Int32 × dc_M => ∃ e : Nat, p.2.2.1.toInt = e ∧ e ≤ E ∧ LI m1 p.2.2.2 (m1.1 100) (m1.1 85) (m1.1 86) n E w b p.1 ∧ LPs p.2.2.2 (m1.1 100) (m1.1 85) (m1.1 86) n E w p.1 p.2.1 S e) (fun z => ∃ good' more' m', z = .inl (good', more', sI + 1, m') ∧ LI m1 m' (m1.1 100) (m1.1 85) (m1.1 86) n E w b good' ∧ LPs m' (m1.1 100) (m1.1 85) (m1.1 86) n E w good' more' (S + 1) 0) (fun p p' hI hs' => ?_) (fun p z hI hs' => ?_) ⟨0, rfl, Nat.zero_le _, I, P⟩ h
  · obtain ⟨good, more, x6, m⟩ := p
    obtain ⟨e, i6, ie, I, P⟩ := hI
    have i6 : x6.toInt = e := i6
    have I : LI m1 m (m1.1 100) (m1.1 85) (m1.1 86) n E w b good := I
    have P : LPs m (m1.1 100) (m1.1 85) (m1.1 86) n E w good more S e := P
    have ⟨f1, f2, f3, f4, f5, f6⟩ := I
    have hs' : d_X10_layLevels_l80b 82 wI sI good more x6 m = some (.inl p') := hs'
    unfold d_X10_layLevels_l80b at hs'
    have hen : x6.toNatClampNeg = e := by have := cl_n (x := x6) (by omega); omega
    have h3 : m.1 82 3 = m1.1 82 3 := f1 82 3 (by decide) (by decide)
    rw [h3, hE, show 82 + 20 = 102 from rfl, show 82 + 18 = 100 from rfl, show 82 + 19 = 101 from rfl, show 82 + 3 = 85 from rfl, show 82 + 4 = 86 from rfl, hSn, hen] at hs'
    by_cases c1 : (E : Int) ≤ x6.toInt
    · rw [if_pos c1] at hs'; cases hs'
    · rw [if_neg c1] at hs'
      have he : e < E := by omega
      have he16 : e < 16 := by omega
      rw [ix_2 hs (by omega) i6 he16, f1 100 (16 * S + e) (by decide) (by decide), f1 85 e (by decide) (by decide), f1 86 e (by decide) (by decide)] at hs'
      have p1 : (x6 + 1).toInt = (e + 1 : Nat) := by rw [i1 (by omega) (Int32.le_toInt _)]; omega
      by_cases c2 : (m.1 102 S).toInt = 0
      · rw [if_pos c2] at hs'; cases hs'
      · rw [if_neg c2] at hs'
        have c2' : m.1 102 S ≠ 0 := fun q => c2 (by rw [q]; rfl)
        by_cases c3 : (m1.1 100 (16 * S + e)).toInt = -4
        · rw [if_pos c3] at hs'
          cases hs'
          refine ⟨e + 1, p1, he, I, P.1, fun g1 g2 i k t ed hd hl => ?_⟩
          refine P.2 g1 g2 i k t ed ?_ hl
          by_cases c4 : i = S ∧ k = e
          · exfalso
            obtain ⟨-, -, tn, q⟩ := ed
            rw [c4.1, c4.2] at q
            rw [q, mk_i (by omega)] at c3
            omega
          · unfold dn at hd ⊢; omega
        · rw [if_neg c3] at hs'
          obtain ⟨t, tn, bt⟩ : ∃ t, t < n ∧ m1.1 100 (16 * S + e) = Int32.ofNat t := by
            rcases hed S e hS he with q | q
            · exact absurd (by rw [q]; rfl) c3
            · exact q
          have edE : ED (m1.1 100) n E S e t := ⟨hS, he, tn, bt⟩
          have tI : (Int32.ofNat t).toInt = t := mk_i (by omega)
          have tN : (Int32.ofNat t).toNatClampNeg = t := by have := cl_n (x := Int32.ofNat t) (by omega); omega
          rw [bt] at hs'
          have is : ((m.1 101 S >>> (wI &&& 31)) &&& 1) = bo (b32 (m.1 101 S) w) := by
            rw [b32_v ⟨by omega, by omega⟩, hwn]; rfl
          rw [is] at hs'
          obtain ⟨rb, hrb⟩ : ∃ rb : Bool, m1.1 86 e = bo rb ∧ decide (m1.1 86 e = 1) = rb := by
            rcases hR e he with q | q
            · exact ⟨false, q, by rw [q]; decide⟩
            · exact ⟨true, q, by rw [q]; decide⟩
          obtain ⟨hrb1, hrb2⟩ := hrb
          rw [hrb1] at hs'
          generalize hL : b32 (m.1 101 S) w = L at hs'
          -- the value behind the event, whether the event fits here
          obtain ⟨th, fit, hth, hfit, hs'⟩ : ∃ th fit : Bool, (((m1.1 85 e).toInt = w → th = rb ∧ fit = !decide (L = rb)) ∧ ((m1.1 85 e).toInt ≠ w → th = L ∧ fit = true)) ∧ True ∧ d_X10_layLevels_b191 82 wI more sI x6 (Int32.ofNat t) (bo th) (if good.toInt = 0 then 0 else bo fit) m = some (.inl p') := by
            by_cases cw : (m1.1 85 e).toInt = w
            · rw [if_neg (fun q => q (by rw [hw]; exact cw))] at hs'
              refine ⟨rb, !decide (L = rb), ⟨fun _ => ⟨rfl, rfl⟩, fun q => absurd cw q⟩, trivial, ?_⟩
              unfold d_X10_layLevels_b157 at hs'
              rw [show 82 + 3 = 85 from rfl, show 82 + 4 = 86 from rfl, hen, f1 85 e (by decide) (by decide), f1 86 e (by decide) (by decide), hrb1] at hs'
              by_cases cg : good.toInt = 0
              · rw [if_pos cg] at hs' ⊢
                exact hs'
              · rw [if_neg cg, if_neg (fun q => q (by rw [hw]; exact cw))] at hs'
                rw [if_neg cg]
                by_cases cl : (bo L).toInt = (bo rb).toInt
                · rw [if_pos cl] at hs'
                  rw [decide_eq_true (bo_j.mp cl)]
                  exact hs'
                · rw [if_neg cl] at hs'
                  rw [decide_eq_false (fun q => cl (bo_j.mpr q))]
                  exact hs'
            · rw [if_pos (fun q => cw (by rw [← hw]; exact q))] at hs'
              refine ⟨L, true, ⟨fun q => absurd q cw, fun _ => ⟨rfl, rfl⟩⟩, trivial, ?_⟩
              unfold d_X10_layLevels_b157 at hs'
              rw [show 82 + 3 = 85 from rfl, hen, f1 85 e (by decide) (by decide)] at hs'
              by_cases cg : good.toInt = 0
              · rw [if_pos cg] at hs' ⊢
                exact hs'
              · rw [if_neg cg, if_pos (fun q => cw (by rw [← hw]; exact q))] at hs'
                rw [if_neg cg]
                exact hs'
          clear hfit
          -- good behind the first look
          obtain ⟨g1, hg1, g1ok⟩ : ∃ g1 : Int32, (if good.toInt = 0 then (0 : Int32) else bo fit) = g1 ∧ ((g1 = 0 ∨ g1 = 1) ∧ (g1 = 1 ↔ good = 1 ∧ fit = true)) := by
            refine ⟨_, rfl, ?_⟩
            rcases f5 with q | q
            · rw [q, if_pos (by decide)]
              exact ⟨Or.inl rfl, ⟨fun z => absurd z (by decide), fun z => absurd z.1 (by decide)⟩⟩
            · rw [q, if_neg (by decide)]
              cases fit
              · exact ⟨Or.inl rfl, ⟨fun z => absurd z (by decide), fun z => absurd z.2 (by decide)⟩⟩
              · exact ⟨Or.inr rfl, ⟨fun _ => ⟨rfl, rfl⟩, fun _ => rfl⟩⟩
          rw [hg1] at hs'
          -- what levels that go for all say
          have val : ∀ l, VA (m1.1 100) (m1.1 85) (m1.1 86) n E w b l → good = 1 ∧ fit = true ∧ l t = th ∧ L = l S := fun l hl => by
            obtain ⟨q1, q2⟩ := f6 l hl
            have q3 := q2 S hS c2'
            rw [hL] at q3
            obtain ⟨v1, v2⟩ := hl.2 S e t edE
            by_cases cw : (m1.1 85 e).toInt = w
            · obtain ⟨w1, w2⟩ := v1 cw
              obtain ⟨t1, t2⟩ := hth.1 cw
              rw [hrb2] at w1 w2
              refine ⟨q1, ?_, by rw [w2, t1], q3⟩
              rw [t2, q3, w1]
              cases rb <;> rfl
            · obtain ⟨t1, t2⟩ := hth.2 cw
              exact ⟨q1, t2, by rw [v2 cw, t1, q3], q3⟩
          unfold d_X10_layLevels_b191 at hs'
          rw [show 82 + 20 = 102 from rfl, show 82 + 19 = 101 from rfl, tN] at hs'
          by_cases c5 : (m.1 102 t).toInt = 0
          · -- a state that is new
            have c5' : m.1 102 t = 0 := i32_01.mp c5
            rw [if_pos c5, nar_01.2] at hs'
            have hs' : some (Sum.inl (g1, (1 : Int32), x6 + 1, dc_wi (dc_wi m 101 t ((m.1 101 t &&& (((1 : Int32) <<< (wI &&& 31)) ^^^ -1)) ||| (bo th <<< (wI &&& 31)))) 102 t 1)) = some (Sum.inl p') := hs'
            cases hs'
            have l1 : ∀ i, (dc_wi (dc_wi m 101 t ((m.1 101 t &&& (((1 : Int32) <<< (wI &&& 31)) ^^^ -1)) ||| (bo th <<< (wI &&& 31)))) 102 t 1).1 101 i = if i = t then ((m.1 101 t &&& (((1 : Int32) <<< (wI &&& 31)) ^^^ -1)) ||| (bo th <<< (wI &&& 31))) else m.1 101 i := fun i => by
              by_cases q : i = t
              · rw [if_pos q, q, wi_k (by omega), wi_s]
              · rw [if_neg q, wi_k (by omega), wi_k (by omega)]
            have l2 : ∀ i, (dc_wi (dc_wi m 101 t ((m.1 101 t &&& (((1 : Int32) <<< (wI &&& 31)) ^^^ -1)) ||| (bo th <<< (wI &&& 31)))) 102 t 1).1 102 i = if i = t then 1 else m.1 102 i := fun i => by
              by_cases q : i = t
              · rw [if_pos q, q, wi_s]
              · rw [if_neg q, wi_k (by omega), wi_k (by omega)]
            have tb : ∀ j, j < 32 → b32 ((m.1 101 t &&& (((1 : Int32) <<< (wI &&& 31)) ^^^ -1)) ||| (bo th <<< (wI &&& 31))) j = if j = w then th else b32 (m.1 101 t) j := fun j hj => by
              rw [b32_set ⟨by omega, by omega⟩ hj, hwn]
            have t0 : t ≠ 0 := fun q => f4.1 (by rw [← q]; exact c5')
            refine ⟨e + 1, p1, he, ⟨fun c k h1 h2 => ?_, f2, fun i j hj hjw => ?_, ⟨?_, ?_⟩, g1ok.1, fun l hl => ?_⟩, Or.inr rfl, fun q => absurd q (show ¬ (1 : Int32) = 0 by decide)⟩
            · show (dc_wi (dc_wi m 101 t _) 102 t 1).1 c k = _
              rw [wi_k (by omega), wi_k (by omega)]
              exact f1 c k h1 h2
            · show b32 ((dc_wi (dc_wi m 101 t _) 102 t 1).1 101 i) j = _
              rw [l1]
              by_cases q : i = t
              · rw [if_pos q, tb j hj, if_neg hjw, q]
                exact f3 t j hj hjw
              · rw [if_neg q]
                exact f3 i j hj hjw
            · show (dc_wi (dc_wi m 101 t _) 102 t 1).1 102 0 ≠ 0
              rw [l2, if_neg (Ne.symm t0)]
              exact f4.1
            · show b32 ((dc_wi (dc_wi m 101 t _) 102 t 1).1 101 0) w = b
              rw [l1, if_neg (Ne.symm t0)]
              exact f4.2
            · obtain ⟨v1, v2, v3, v4⟩ := val l hl
              refine ⟨g1ok.2.mpr ⟨v1, v2⟩, fun i hi hd => ?_⟩
              show b32 ((dc_wi (dc_wi m 101 t _) 102 t 1).1 101 i) w = l i
              have hd : (dc_wi (dc_wi m 101 t ((m.1 101 t &&& (((1 : Int32) <<< (wI &&& 31)) ^^^ -1)) ||| (bo th <<< (wI &&& 31)))) 102 t 1).1 102 i ≠ 0 := hd
              rw [l1]
              by_cases q : i = t
              · rw [if_pos q, tb w hw2, if_pos rfl, q, v3]
              · rw [if_neg q]
                rw [l2, if_neg q] at hd
                exact (f6 l hl).2 i hi hd
          · -- a state that is laid
            have c5' : m.1 102 t ≠ 0 := fun q => c5 (by rw [q]; rfl)
            have is2 : ((m.1 101 t >>> (wI &&& 31)) &&& 1) = bo (b32 (m.1 101 t) w) := by
              rw [b32_v ⟨by omega, by omega⟩, hwn]; rfl
            rw [if_neg c5, is2] at hs'
            obtain ⟨g2, hp', g2ok⟩ : ∃ g2 : Int32, p' = (g2, more, x6 + 1, m) ∧ ((g2 = 0 ∨ g2 = 1) ∧ (g2 = 1 ↔ g1 = 1 ∧ b32 (m.1 101 t) w = th)) := by
              by_cases q : g1.toInt = 0
              · rw [if_pos q] at hs'
                cases hs'
                exact ⟨0, rfl, Or.inl rfl, ⟨fun z => absurd z (by decide), fun z => by rw [z.1] at q; exact absurd q (by decide)⟩⟩
              · rw [if_neg q] at hs'
                have q1 : g1 = 1 := by
                  rcases g1ok.1 with z | z
                  · rw [z] at q; exact absurd rfl q
                  · exact z
                by_cases q2 : (bo (b32 (m.1 101 t) w)).toInt = (bo th).toInt
                · rw [if_neg (fun z => z q2)] at hs'
                  cases hs'
                  exact ⟨1, rfl, Or.inr rfl, ⟨fun _ => ⟨q1, bo_j.mp q2⟩, fun _ => rfl⟩⟩
                · rw [if_pos q2] at hs'
                  cases hs'
                  exact ⟨0, rfl, Or.inl rfl, ⟨fun z => absurd z (by decide), fun z => absurd (bo_j.mpr z.2) q2⟩⟩
            rw [hp']
            refine ⟨e + 1, p1, he, ⟨f1, f2, f3, f4, g2ok.1, fun l hl => ?_⟩, P.1, fun q1 q2 i k t' ed hd hl => ?_⟩
            · obtain ⟨v1, v2, v3, v4⟩ := val l hl
              have q := (f6 l hl).2
              exact ⟨g2ok.2.mpr ⟨g1ok.2.mpr ⟨v1, v2⟩, by rw [q t tn c5', v3]⟩, q⟩
            · have q2 : g2 = 1 := q2
              obtain ⟨r1, r2⟩ := g2ok.2.mp q2
              obtain ⟨r3, r4⟩ := g1ok.2.mp r1
              by_cases c6 : i = S ∧ k = e
              · obtain ⟨rfl, rfl⟩ := c6
                have tt : t' = t := by
                  have q := ed.2.2.2
                  rw [bt] at q
                  have q := congrArg Int32.toInt q
                  rw [mk_i (by omega), mk_i (by have := ed.2.2.1; omega)] at q
                  omega
                subst tt
                refine ⟨c5', fun cw => ?_, fun cw => ?_⟩
                · obtain ⟨t1, t2⟩ := hth.1 cw
                  show b32 (m.1 101 i) w = _ ∧ b32 (m.1 101 t') w = _
                  rw [hrb2, hL, r2, t1]
                  refine ⟨?_, rfl⟩
                  rw [r4] at t2
                  revert t2
                  cases L <;> cases rb <;> decide
                · obtain ⟨t1, t2⟩ := hth.2 cw
                  show b32 (m.1 101 t') w = b32 (m.1 101 i) w
                  rw [hL, r2, t1]
              · exact P.2 q1 r3 i k t' ed (by unfold dn at hd ⊢; omega) hl
  · obtain ⟨good, more, x6, m⟩ := p
    obtain ⟨e, i6, ie, I, P⟩ := hI
    have i6 : x6.toInt = e := i6
    have I : LI m1 m (m1.1 100) (m1.1 85) (m1.1 86) n E w b good := I
    have P : LPs m (m1.1 100) (m1.1 85) (m1.1 86) n E w good more S e := P
    have ⟨f1, f2, f3, f4, f5, f6⟩ := I
    have hs' : d_X10_layLevels_l80b 82 wI sI good more x6 m = some (.inr z) := hs'
    unfold d_X10_layLevels_l80b at hs'
    have h3 : m.1 82 3 = m1.1 82 3 := f1 82 3 (by decide) (by decide)
    rw [h3, hE, show 82 + 20 = 102 from rfl, hSn] at hs'
    by_cases c1 : (E : Int) ≤ x6.toInt
    · rw [if_pos c1] at hs'
      cases hs'
      refine ⟨good, more, m, rfl, I, P.1, fun q1 q2 i k t ed hd hl => P.2 q1 q2 i k t ed ?_ hl⟩
      have := ed.2.1
      unfold dn at hd ⊢; omega
    · rw [if_neg c1] at hs'
      by_cases c2 : (m.1 102 S).toInt = 0
      · rw [if_pos c2] at hs'
        cases hs'
        refine ⟨good, more, m, rfl, I, P.1, fun q1 q2 i k t ed hd hl => P.2 q1 q2 i k t ed ?_ hl⟩
        by_cases c3 : i = S
        · rw [c3] at hl
          exact absurd (i32_01.mp c2) hl
        · unfold dn at hd ⊢; omega
      · rw [if_neg c2] at hs'
        exfalso
        split at hs'
        · cases hs'
        · have nb : ∀ a1 a2 a3 a4 a5 a6 a7 a8, d_X10_layLevels_b191 82 a1 a2 a3 a4 a5 a6 a7 m = some (Sum.inr a8) → False := fun a1 a2 a3 a4 a5 a6 a7 a8 q => by
            unfold d_X10_layLevels_b191 at q
            split at q
            · cases q
            · split at q
              · cases q
              · split at q <;> cases q
          have nb2 : ∀ a1 a2 a3 a4 a5 a6 a7 a8 a9, d_X10_layLevels_b157 82 a1 a2 a3 a4 a5 a6 a7 a8 m = some (Sum.inr a9) → False := fun a1 a2 a3 a4 a5 a6 a7 a8 a9 q => by
            unfold d_X10_layLevels_b157 at q
            split at q
            · exact nb _ _ _ _ _ _ _ _ q
            · split at q
              · exact nb _ _ _ _ _ _ _ _ q
              · split at q
                · exact nb _ _ _ _ _ _ _ _ q
                · exact nb _ _ _ _ _ _ _ _ q
          split at hs'
          · exact nb2 _ _ _ _ _ _ _ _ _ hs'
          · exact nb2 _ _ _ _ _ _ _ _ _ hs'
