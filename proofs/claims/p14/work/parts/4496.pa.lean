/-! ===== reading a place ===== -/
def cnt (x : Int32) : Nat → Nat
  | 0 => 0
  | n + 1 => cnt x n + (if b32 x n = true then 1 else 0)
theorem cnt_le {x : Int32} : ∀ n, cnt x n ≤ n
  | 0 => Nat.le_refl _
  | n + 1 => by
    have := cnt_le (x := x) n
    unfold cnt
    split <;> omega
theorem cnt_0 : ∀ n, cnt 0 n = 0
  | 0 => rfl
  | n + 1 => by
    unfold cnt
    rw [cnt_0 n, b32_0]
    rfl
theorem cnt_or {x e : Int32} (he : 0 ≤ e.toInt ∧ e.toInt < 32) (hx : b32 x e.toNatClampNeg = false) : ∀ n, n ≤ 32 → cnt (x ||| ((1 : Int32) <<< (e &&& 31))) n = cnt x n + (if e.toNatClampNeg < n then 1 else 0)
  | 0, _ => rfl
  | n + 1, h => by
    unfold cnt
    rw [cnt_or he hx n (by omega), b32_or, b32_1 he (by omega)]
    by_cases z : n = e.toNatClampNeg
    · rw [z, hx, if_neg (Nat.lt_irrefl _), decide_eq_true rfl, if_pos (Nat.lt_succ_self _)]
      rfl
    · rw [decide_eq_false z, Bool.or_false]
      by_cases y : e.toNatClampNeg < n
      · rw [if_pos y, if_pos (show e.toNatClampNeg < n + 1 by omega)]
        omega
      · rw [if_neg y, if_neg (show ¬ e.toNatClampNeg < n + 1 by omega)]
        omega
theorem sl_0 {y : Int32} : (0 : Int32) <<< (y &&& 31) = 0 := b32_ext (fun k hk => by
  rw [b32_0]
  unfold b32
  rw [Int32.toBitVec_shiftLeft, show (0 : Int32).toBitVec <<< ((y &&& 31).toBitVec.smod 32) = (0#32) <<< ((y &&& 31).toBitVec.smod 32).toNat from rfl, BitVec.getLsbD_shiftLeft, BitVec.getLsbD_zero]
  simp)
/-- a bit where another bit stands -/
def bi (F : Int32) (k : Nat) (b : Int32) : Int32 := if b32 F k = true then b else 0
theorem bi_b {F x : Int32} {j k : Nat} (hx : 0 ≤ x.toInt ∧ x.toInt < 32) (hk : k < 32) : b32 (bi F j ((1 : Int32) <<< (x &&& 31))) k = (decide (k = x.toNatClampNeg) && b32 F j) := by
  unfold bi
  cases b32 F j with
  | true => rw [if_pos rfl, b32_1 hx hk, Bool.and_true]
  | false => rw [if_neg (by decide), b32_0, Bool.and_false]
def apM (a : Nat) (c : dc_M) (F T v : Int32) : dc_M := dc_wi (dc_wi (dc_wi c (a + 9) (c.1 a 2).toNatClampNeg F) (a + 10) (c.1 a 2).toNatClampNeg T) a 13 (c.1 a 13 ||| (v <<< (c.1 a 2 &&& 31)))
theorem ap_eq {a : Nat} {c : dc_M} {F T v : Int32} (ha : a = 41 ∨ a = 52) (hp : (c.1 a 2).toInt < 20) : d_X3_addPlace a F T v c = d_X3_addPlace_l56 a F T ((1 : Int32) <<< (c.1 a 2 &&& 31)) 0 (apM a c F T v) := by
  rcases ha with rfl | rfl
  · unfold d_X3_addPlace
    rw [if_pos hp]
    rfl
  · unfold d_X3_addPlace
    rw [if_pos hp]
    rfl
theorem ap_s {a : Nat} {F T b i : Int32} {m : dc_M} (h0 : 0 ≤ i.toInt) (h1 : i.toInt < (m.1 a 1).toInt) (h2 : (m.1 a 1).toInt ≤ 16) : d_X3_addPlace_l56b a F T b i m = some (.inl (i + 1, dc_wi (dc_wi m (a + 7) i.toNatClampNeg (m.1 (a + 7) i.toNatClampNeg ||| bi F i.toNatClampNeg b)) (a + 6) i.toNatClampNeg (m.1 (a + 6) i.toNatClampNeg ||| bi T i.toNatClampNeg b))) := by
  unfold d_X3_addPlace_l56b
  rw [if_neg (by omega)]
  have e : ∀ v, (dc_wi m (a + 7) i.toNatClampNeg v).1 (a + 6) i.toNatClampNeg = m.1 (a + 6) i.toNatClampNeg := fun v => wi_k (by omega)
  unfold bi
  by_cases hF : b32 F i.toNatClampNeg = false
  · rw [if_pos ((b32_t ⟨h0, by omega⟩).mpr hF), hF, if_neg (show ¬ false = true by decide)]
    unfold d_X3_addPlace_b88
    by_cases hT : b32 T i.toNatClampNeg = false
    · rw [if_pos ((b32_t ⟨h0, by omega⟩).mpr hT), hT, if_neg (show ¬ false = true by decide), e]
    · rw [if_neg (fun q => hT ((b32_t ⟨h0, by omega⟩).mp q)), eq_true_of_ne_false hT, if_pos rfl, e]
  · rw [if_neg (fun q => hF ((b32_t ⟨h0, by omega⟩).mp q)), eq_true_of_ne_false hF, if_pos rfl]
    unfold d_X3_addPlace_b88
    by_cases hT : b32 T i.toNatClampNeg = false
    · rw [if_pos ((b32_t ⟨h0, by omega⟩).mpr hT), hT, if_neg (show ¬ false = true by decide), e]
    · rw [if_neg (fun q => hT ((b32_t ⟨h0, by omega⟩).mp q)), eq_true_of_ne_false hT, if_pos rfl, e]
/-- what a place that is told leaves -/
theorem ap_run {a : Nat} {c e : dc_M} {F T v : Int32} (ha : a = 41 ∨ a = 52) (hp : (c.1 a 2).toInt < 20) (e0 : 0 ≤ (c.1 a 1).toInt) (e16 : (c.1 a 1).toInt ≤ 16) (h : d_X3_addPlace a F T v c = some e) : e.2 = c.2 ∧ ∀ b k : Nat, e.1 b k = if b = a ∧ k = 2 then c.1 a 2 + 1 else if b = a + 7 ∧ (k : Int) < (c.1 a 1).toInt then c.1 b k ||| bi F k ((1 : Int32) <<< (c.1 a 2 &&& 31)) else if b = a + 6 ∧ (k : Int) < (c.1 a 1).toInt then c.1 b k ||| bi T k ((1 : Int32) <<< (c.1 a 2 &&& 31)) else (apM a c F T v).1 b k := by
  rw [ap_eq ha hp] at h
  unfold d_X3_addPlace_l56 at h
  have m1 : (apM a c F T v).1 a 1 = c.1 a 1 := by unfold apM; rw [wi_k (by omega), wi_k (by omega), wi_k (by omega)]
  have m2 : (apM a c F T v).1 a 2 = c.1 a 2 := by unfold apM; rw [wi_k (by omega), wi_k (by omega), wi_k (by omega)]
  have m7 : ∀ k, (apM a c F T v).1 (a + 7) k = c.1 (a + 7) k := fun k => by unfold apM; rw [wi_k (by omega), wi_k (by omega), wi_k (by omega)]
  have m6 : ∀ k, (apM a c F T v).1 (a + 6) k = c.1 (a + 6) k := fun k => by unfold apM; rw [wi_k (by omega), wi_k (by omega), wi_k (by omega)]
  have mz : (apM a c F T v).2 = c.2 := rfl
  generalize apM a c F T v = M at *
  generalize (1 : Int32) <<< (c.1 a 2 &&& 31) = bt at *
  refine dc_lp_inv (fun s : Int32 × dc_M => (0 ≤ s.1.toInt ∧ s.1.toInt ≤ (c.1 a 1).toInt) ∧ s.2.2 = c.2 ∧ ∀ b k : Nat, s.2.1 b k = if b = a + 7 ∧ (k : Int) < s.1.toInt then c.1 b k ||| bi F k bt else if b = a + 6 ∧ (k : Int) < s.1.toInt then c.1 b k ||| bi T k bt else M.1 b k) (fun e => e.2 = c.2 ∧ ∀ b k : Nat, e.1 b k = if b = a ∧ k = 2 then c.1 a 2 + 1 else if b = a + 7 ∧ (k : Int) < (c.1 a 1).toInt then c.1 b k ||| bi F k bt else if b = a + 6 ∧ (k : Int) < (c.1 a 1).toInt then c.1 b k ||| bi T k bt else M.1 b k) (fun s s' hI hs => ?_) (fun s e hI hs => ?_) ⟨⟨show 0 ≤ (0 : Int32).toInt by decide, show (0 : Int32).toInt ≤ (c.1 a 1).toInt from e0⟩, mz, fun b k => ?_⟩ h
  · obtain ⟨⟨i0, i1'⟩, j2, jr⟩ := hI
    obtain ⟨i, s⟩ := s
    have i0 : 0 ≤ i.toInt := i0
    have i1' : i.toInt ≤ (c.1 a 1).toInt := i1'
    have jr : ∀ b k : Nat, s.1 b k = if b = a + 7 ∧ (k : Int) < i.toInt then c.1 b k ||| bi F k bt else if b = a + 6 ∧ (k : Int) < i.toInt then c.1 b k ||| bi T k bt else M.1 b k := jr
    have ja : s.1 a 1 = c.1 a 1 := by rw [jr, if_neg (by omega), if_neg (by omega), m1]
    have hn := cl_n i0
    have hs : d_X3_addPlace_l56b a F T bt i s = some (.inl s') := hs
    by_cases hlt : i.toInt < (c.1 a 1).toInt
    · rw [ap_s i0 (by rw [ja]; exact hlt) (by rw [ja]; exact e16)] at hs
      cases hs
      have p1 : (i + 1).toInt = i.toInt + 1 := i1 (by omega) (Int32.le_toInt _)
      refine ⟨⟨by show 0 ≤ (i + 1).toInt; omega, by show (i + 1).toInt ≤ _; omega⟩, j2, fun b k => ?_⟩
      show (dc_wi (dc_wi s (a + 7) i.toNatClampNeg _) (a + 6) i.toNatClampNeg _).1 b k = if b = a + 7 ∧ (k : Int) < (i + 1).toInt then c.1 b k ||| bi F k bt else if b = a + 6 ∧ (k : Int) < (i + 1).toInt then c.1 b k ||| bi T k bt else M.1 b k
      by_cases z6 : b = a + 6 ∧ k = i.toNatClampNeg
      · obtain ⟨rfl, rfl⟩ := z6
        rw [wi_s, jr, if_neg (by omega), if_neg (by omega), if_neg (by omega), if_pos ⟨rfl, by omega⟩, m6]
      · rw [wi_k z6]
        by_cases z7 : b = a + 7 ∧ k = i.toNatClampNeg
        · obtain ⟨rfl, rfl⟩ := z7
          rw [wi_s, jr, if_neg (by omega), if_neg (by omega), if_pos ⟨rfl, by omega⟩, m7]
        · rw [wi_k z7, jr]
          by_cases y7 : b = a + 7 ∧ (k : Int) < i.toInt
          · rw [if_pos y7, if_pos (by omega)]
          · rw [if_neg y7, if_neg (show ¬ (b = a + 7 ∧ (k : Int) < (i + 1).toInt) by omega)]
            by_cases y6 : b = a + 6 ∧ (k : Int) < i.toInt
            · rw [if_pos y6, if_pos (by omega)]
            · rw [if_neg y6, if_neg (by omega)]
    · unfold d_X3_addPlace_l56b at hs
      rw [if_pos (by rw [ja]; omega)] at hs
      cases hs
  · obtain ⟨⟨i0, i1'⟩, j2, jr⟩ := hI
    obtain ⟨i, s⟩ := s
    have i0 : 0 ≤ i.toInt := i0
    have i1' : i.toInt ≤ (c.1 a 1).toInt := i1'
    have jr : ∀ b k : Nat, s.1 b k = if b = a + 7 ∧ (k : Int) < i.toInt then c.1 b k ||| bi F k bt else if b = a + 6 ∧ (k : Int) < i.toInt then c.1 b k ||| bi T k bt else M.1 b k := jr
    have ja : s.1 a 1 = c.1 a 1 := by rw [jr, if_neg (by omega), if_neg (by omega), m1]
    have jb : s.1 a 2 = c.1 a 2 := by rw [jr, if_neg (by omega), if_neg (by omega), m2]
    have hs : d_X3_addPlace_l56b a F T bt i s = some (.inr e) := hs
    by_cases hlt : i.toInt < (c.1 a 1).toInt
    · rw [ap_s i0 (by rw [ja]; exact hlt) (by rw [ja]; exact e16)] at hs
      cases hs
    · unfold d_X3_addPlace_l56b at hs
      rw [if_pos (by rw [ja]; omega), jb] at hs
      cases hs
      refine ⟨j2, fun b k => ?_⟩
      have ei : i.toInt = (c.1 a 1).toInt := by omega
      by_cases z : b = a ∧ k = 2
      · rw [if_pos z, z.1, z.2]
        exact wi_s
      · rw [if_neg z, wi_k z, jr, ei]
  · rw [if_neg (by have := e0; show ¬ (b = a + 7 ∧ (k : Int) < (0 : Int32).toInt); rw [show (0 : Int32).toInt = 0 from rfl]; omega), if_neg (by show ¬ (b = a + 6 ∧ (k : Int) < (0 : Int32).toInt); rw [show (0 : Int32).toInt = 0 from rfl]; omega)]
/-- a place more, on both sides -/
theorem XQb.or {x v y : Int32} (h : XQb x) (hv : v = 0 ∨ v = 1) (hy : 0 ≤ y.toInt ∧ y.toInt < 20) : XQb (x ||| (v <<< (y &&& 31))) := fun k h1 h2 => by
  have hn := cl_n hy.1
  rw [b32_or, h k h1 h2]
  rcases hv with rfl | rfl
  · rw [sl_0, b32_0]; rfl
  · rw [b32_1 ⟨hy.1, by omega⟩ h2, decide_eq_false (by omega)]; rfl
theorem NT.ap {a : Nat} {F T v : Int32} {c e m m' : dc_M} (hv : v = 0 ∨ v = 1) (ha : a = 41 ∨ a = 52) (N : NT a F T c m) (hp : (c.1 a 2).toInt < 20) (h : d_X3_addPlace a F T v c = some e) (q : mn m' = mn m) (u1 : m'.1 82 21 = m.1 82 21) (u4 : m'.1 82 24 = m.1 82 24) (u0 : m'.1 82 30 = m.1 82 30 + 1) (u3 : m'.1 82 31 = m.1 82 31 ||| (v <<< (m.1 82 30 &&& 31))) : NT a 0 0 e m' ∧ sR c e := by
  obtain ⟨⟨w1, w2, w3, w4⟩, ⟨e1, e2, e3, e4⟩, s, ⟨p1, p2, p3, p4⟩, b⟩ := N
  obtain ⟨r2, r⟩ := ap_run ha hp e2 e3 h
  have hP := cl_n p2
  have hp' : (cn a c 0 2).toInt < 20 := hp
  have hb : ((1 : Int32) <<< (c.1 a 2 &&& 31)) = (1 : Int32) <<< (cn a c 0 2 &&& 31) := rfl
  have ax : ∀ b k : Nat, ¬ (b = a ∧ k = 13) → ¬ (b = a + 9 ∧ k = (c.1 a 2).toNatClampNeg) → ¬ (b = a + 10 ∧ k = (c.1 a 2).toNatClampNeg) → (apM a c F T v).1 b k = c.1 b k := fun b k g1 g2 g3 => by unfold apM; rw [wi_k g1, wi_k g3, wi_k g2]
  have z : ∀ i k, ¬ (i = 0 ∧ (k = 2 ∨ k = 13)) → ¬ i = 6 → ¬ i = 7 → ¬ i = 9 → ¬ i = 10 → cn a e i k = cn a c i k := fun i k g1 g2 g3 g4 g5 => by
    show e.1 (a + i) k = c.1 (a + i) k
    rw [r, if_neg (by omega), if_neg (by omega), if_neg (by omega), ax _ _ (by omega) (by omega) (by omega)]
  have z2 : cn a e 0 2 = cn a c 0 2 + 1 := by
    show e.1 (a + 0) 2 = _
    rw [r, if_pos ⟨rfl, rfl⟩]
    rfl
  have z13 : cn a e 0 13 = cn a c 0 13 ||| (v <<< (cn a c 0 2 &&& 31)) := by
    show e.1 (a + 0) 13 = _
    rw [r, if_neg (by omega), if_neg (by omega), if_neg (by omega)]
    exact wi_s
  have z7 : ∀ k : Nat, (k : Int) < (cn a c 0 1).toInt → cn a e 7 k = cn a c 7 k ||| bi F k ((1 : Int32) <<< (cn a c 0 2 &&& 31)) := fun k hk => by
    have hk : (k : Int) < (c.1 a 1).toInt := hk
    show e.1 (a + 7) k = _
    rw [r, if_neg (by omega), if_pos ⟨rfl, hk⟩]
    rfl
  have z6 : ∀ k : Nat, (k : Int) < (cn a c 0 1).toInt → cn a e 6 k = cn a c 6 k ||| bi T k ((1 : Int32) <<< (cn a c 0 2 &&& 31)) := fun k hk => by
    have hk : (k : Int) < (c.1 a 1).toInt := hk
    show e.1 (a + 6) k = _
    rw [r, if_neg (by omega), if_neg (by omega), if_pos ⟨rfl, hk⟩]
    rfl
  have z9 : ∀ k : Nat, cn a e 9 k = if k = (cn a c 0 2).toNatClampNeg then F else cn a c 9 k := fun k => by
    show e.1 (a + 9) k = _
    rw [r, if_neg (by omega), if_neg (by omega), if_neg (by omega)]
    unfold apM
    rw [wi_k (by omega), wi_k (by omega)]
    by_cases g : k = (cn a c 0 2).toNatClampNeg
    · have g' : k = (c.1 a 2).toNatClampNeg := g
      rw [if_pos g, g']
      exact wi_s
    · have g' : ¬ k = (c.1 a 2).toNatClampNeg := g
      rw [if_neg g, wi_k (by omega)]
      rfl
  have z10 : ∀ k : Nat, cn a e 10 k = if k = (cn a c 0 2).toNatClampNeg then T else cn a c 10 k := fun k => by
    show e.1 (a + 10) k = _
    rw [r, if_neg (by omega), if_neg (by omega), if_neg (by omega)]
    unfold apM
    rw [wi_k (by omega)]
    by_cases g : k = (cn a c 0 2).toNatClampNeg
    · have g' : k = (c.1 a 2).toNatClampNeg := g
      rw [if_pos g, g']
      exact wi_s
    · have g' : ¬ k = (c.1 a 2).toNatClampNeg := g
      rw [if_neg g, wi_k (by omega), wi_k (by omega)]
      rfl
  refine ⟨?_, ⟨fun b k hb => by rw [r, if_neg (by omega), if_neg (by omega), if_neg (by omega), ax _ _ (by omega) (by omega) (by omega)], r2⟩⟩
  unfold NT
  rw [q, u1, u4, u0, u3]
  clear r r2 ax h hb
  generalize cn a e = n' at *
  generalize cn a c = n at *
  have z0 := z 0 0 (by omega) (by omega) (by omega) (by omega) (by omega)
  have z1 := z 0 1 (by omega) (by omega) (by omega) (by omega) (by omega)
  have j1 : (n 0 2 + 1).toInt = (n 0 2).toInt + 1 := i1 (by omega) (Int32.le_toInt _)
  have jn : (n 0 2 + 1).toNatClampNeg = (n 0 2).toNatClampNeg + 1 := by
    have := cl_n (x := n 0 2 + 1) (by omega)
    omega
  have hP3 : 0 ≤ (n 0 2).toInt ∧ (n 0 2).toInt < 32 := ⟨p2, by omega⟩
  refine ⟨⟨by rw [z0]; exact w1, by rw [z0]; exact w2, by rw [z0]; exact w3, fun j hj => ?_⟩, ⟨by rw [z1]; exact e1, by rw [z1]; exact e2, by rw [z1]; exact e3, fun j hj => ?_⟩, fun k _ _ => ⟨b32_0, b32_0⟩, ⟨by rw [z2, p1], by rw [z2]; omega, by rw [z2]; omega, by rw [z13, p4.1, p1], by rw [z13]; exact p4.2.or hv ⟨p2, hp'⟩⟩, fun p hp2 k hk => ?_⟩
  · rw [z0] at hj
    rw [z 1 j (by omega) (by omega) (by omega) (by omega) (by omega), z 2 j (by omega) (by omega) (by omega) (by omega) (by omega)]
    exact w4 j hj
  · rw [z1] at hj
    obtain ⟨a1, a2, a3, a4, aw, a5⟩ := e4 j hj
    rw [z 3 j (by omega) (by omega) (by omega) (by omega) (by omega), z 4 j (by omega) (by omega) (by omega) (by omega) (by omega), z 5 j (by omega) (by omega) (by omega) (by omega) (by omega), z 8 j (by omega) (by omega) (by omega) (by omega) (by omega), z6 j hj, z7 j hj, z2, jn, j1, z0]
    refine ⟨a1, a2, a3, a4, aw, fun k hk => ?_⟩
    obtain ⟨g1, g2, g3⟩ := a5 k hk
    rw [b32_or, b32_or, bi_b hP3 hk, bi_b hP3 hk, g1, g2, b32_0, Bool.and_false, Bool.or_false, Bool.or_false]
    refine ⟨rfl, rfl, fun hle => ?_⟩
    obtain ⟨g4, g5⟩ := g3 (by omega)
    rw [g4, g5, decide_eq_false (by omega)]
    exact ⟨rfl, rfl⟩
  · rw [z2, j1] at hp2
    rw [z9, z10, z1]
    by_cases hk1 : (k : Int) < (n 0 1).toInt
    · rw [z6 k hk1, z7 k hk1, decide_eq_true hk1, Bool.true_and, Bool.true_and, b32_or, b32_or, bi_b hP3 (by omega), bi_b hP3 (by omega)]
      by_cases hpP : p = (n 0 2).toNatClampNeg
      · obtain ⟨g4, g5⟩ := ((e4 k hk1).2.2.2.2.2 p (by omega)).2.2 (by omega)
        rw [if_pos hpP, if_pos hpP, g4, g5, decide_eq_true hpP]
        exact ⟨rfl, rfl⟩
      · obtain ⟨b1, b2⟩ := b p (by omega) k hk
        rw [if_neg hpP, if_neg hpP, decide_eq_false hpP, b1, b2, decide_eq_true hk1]
        simp
    · rw [decide_eq_false hk1, Bool.false_and, Bool.false_and]
      by_cases hpP : p = (n 0 2).toNatClampNeg
      · rw [if_pos hpP, if_pos hpP]
        exact s k (by omega) hk
      · obtain ⟨b1, b2⟩ := b p (by omega) k hk
        rw [if_neg hpP, if_neg hpP, b1, b2, decide_eq_false hk1]
        exact ⟨rfl, rfl⟩
