/-! ===== a text, read on both sides ===== -/
theorem LV.mono {p q : Int} {a : Nat} {K : Int32 × Int32} {F T : Int32} {c m : dc_M} (l : LV p a K F T c m) (h : q ≤ p) : LV q a K F T c m := ⟨l.1.mono h, l.2⟩
/-- what the reference's text leaves: the new lists copied -/
def tcW (m : dc_M) (n : Nat) : dc_M := dc_wi (dc_wi (dc_wi (dc_wi (dc_wi (dc_wi m 85 n (m.1 94 n)) 86 n (m.1 95 n)) 87 n (m.1 96 n)) 88 n (m.1 97 n)) 89 n (m.1 98 n)) 90 n 1
theorem tcW_eq {m : dc_M} {n b k : Nat} : (tcW m n).1 b k = if 85 ≤ b ∧ b ≤ 89 ∧ k = n then m.1 (b + 9) k else if b = 90 ∧ k = n then 1 else m.1 b k := by
  unfold tcW
  by_cases h : 85 ≤ b ∧ b ≤ 89 ∧ k = n
  · rw [if_pos h]
    obtain ⟨h1, h2, rfl⟩ := h
    rcases (show b = 85 ∨ b = 86 ∨ b = 87 ∨ b = 88 ∨ b = 89 by omega) with rfl | rfl | rfl | rfl | rfl
    · rw [wi_k (by omega), wi_k (by omega), wi_k (by omega), wi_k (by omega), wi_k (by omega)]
      exact wi_s
    · rw [wi_k (by omega), wi_k (by omega), wi_k (by omega), wi_k (by omega)]
      exact wi_s
    · rw [wi_k (by omega), wi_k (by omega), wi_k (by omega)]
      exact wi_s
    · rw [wi_k (by omega), wi_k (by omega)]
      exact wi_s
    · rw [wi_k (by omega)]
      exact wi_s
  · rw [if_neg h]
    by_cases h2 : b = 90 ∧ k = n
    · rw [if_pos h2, h2.1, h2.2]
      exact wi_s
    · rw [if_neg h2, wi_k (by omega), wi_k (by omega), wi_k (by omega), wi_k (by omega), wi_k (by omega), wi_k (by omega)]
def tcV (m : dc_M) (n : Nat) : dc_M := dc_wi (dc_wi m 83 n (m.1 92 n)) 84 n (m.1 93 n)
theorem tcV_eq {m : dc_M} {n b k : Nat} : (tcV m n).1 b k = if 83 ≤ b ∧ b ≤ 84 ∧ k = n then m.1 (b + 9) k else m.1 b k := by
  unfold tcV
  by_cases h : 83 ≤ b ∧ b ≤ 84 ∧ k = n
  · rw [if_pos h]
    obtain ⟨h1, h2, rfl⟩ := h
    rcases (show b = 83 ∨ b = 84 by omega) with rfl | rfl
    · rw [wi_k (by omega)]
      exact wi_s
    · exact wi_s
  · rw [if_neg h, wi_k (by omega), wi_k (by omega)]
def tcA (m : dc_M) (j : Int) (b k : Nat) : Int32 := if 85 ≤ b ∧ b ≤ 89 ∧ (k : Int) < j then m.1 (b + 9) k else if b = 90 ∧ (k : Int) < j then 1 else m.1 b k
def tcB (m : dc_M) (j : Int) (b k : Nat) : Int32 := if 83 ≤ b ∧ b ≤ 84 ∧ (k : Int) < j then m.1 (b + 9) k else m.1 b k
theorem tc_155 {m : dc_M} {z : Int32 × dc_M} (h : d_X10_text_l155 82 0 m = some z) : z.1 = m.1 82 10 ∧ z.2.2 = m.2 ∧ ∀ b k, z.2.1 b k = if b = 82 ∧ k = 64 then 0 else if b = 115 ∧ k = 0 then m.1 82 11 else tcA m 16 b k := by
  unfold d_X10_text_l155 at h
  refine dc_lp_inv (fun s : Int32 × dc_M => (0 ≤ s.1.toInt ∧ s.1.toInt ≤ 16) ∧ s.2.2 = m.2 ∧ ∀ b k, s.2.1 b k = tcA m s.1.toInt b k) (fun z : Int32 × dc_M => z.1 = m.1 82 10 ∧ z.2.2 = m.2 ∧ ∀ b k, z.2.1 b k = if b = 82 ∧ k = 64 then 0 else if b = 115 ∧ k = 0 then m.1 82 11 else tcA m 16 b k) (fun s s' hI hs => ?_) (fun s e hI hs => ?_) ⟨⟨show 0 ≤ (0 : Int32).toInt by decide, show (0 : Int32).toInt ≤ 16 by decide⟩, rfl, fun b k => ?_⟩ h
  · obtain ⟨i, s⟩ := s
    obtain ⟨⟨i0, i1'⟩, j2, jr⟩ := hI
    have i0 : 0 ≤ i.toInt := i0
    have jr : ∀ b k, s.1 b k = tcA m i.toInt b k := jr
    have hs : d_X10_text_l155b 82 i s = some (.inl s') := hs
    unfold d_X10_text_l155b at hs
    have hn := cl_n i0
    by_cases hlt : 16 ≤ i.toInt
    · rw [if_pos hlt, dc_let_eq] at hs
      cases hs
    · rw [if_neg hlt] at hs
      have hs : some (Sum.inl (i + 1, tcW s i.toNatClampNeg)) = some (Sum.inl s') := hs
      cases hs
      have p1 : (i + 1).toInt = i.toInt + 1 := i1 (by omega) (Int32.le_toInt _)
      refine ⟨⟨by show 0 ≤ (i + 1).toInt; omega, by show (i + 1).toInt ≤ 16; omega⟩, j2, fun b k => ?_⟩
      show (tcW s i.toNatClampNeg).1 b k = tcA m (i + 1).toInt b k
      rw [tcW_eq, jr, jr]
      unfold tcA
      by_cases g1 : 85 ≤ b ∧ b ≤ 89 ∧ k = i.toNatClampNeg
      · rw [if_pos g1, if_neg (by omega), if_neg (by omega), if_pos (by omega)]
      · rw [if_neg g1]
        by_cases g2 : b = 90 ∧ k = i.toNatClampNeg
        · rw [if_pos g2, if_neg (by omega), if_pos (by omega)]
        · rw [if_neg g2]
          by_cases g3 : 85 ≤ b ∧ b ≤ 89 ∧ (k : Int) < i.toInt
          · rw [if_pos g3, if_pos (by omega)]
          · rw [if_neg g3, if_neg (show ¬ (85 ≤ b ∧ b ≤ 89 ∧ (k : Int) < (i + 1).toInt) by omega)]
            by_cases g4 : b = 90 ∧ (k : Int) < i.toInt
            · rw [if_pos g4, if_pos (by omega)]
            · rw [if_neg g4, if_neg (by omega)]
  · obtain ⟨i, s⟩ := s
    obtain ⟨⟨i0, i1'⟩, j2, jr⟩ := hI
    have i1' : i.toInt ≤ 16 := i1'
    have jr : ∀ b k, s.1 b k = tcA m i.toInt b k := jr
    have hs : d_X10_text_l155b 82 i s = some (.inr e) := hs
    unfold d_X10_text_l155b at hs
    by_cases hlt : 16 ≤ i.toInt
    · rw [if_pos hlt, dc_let_eq] at hs
      have hs : some (Sum.inr (s.1 82 10, dc_wi (dc_wi s 82 64 0) 115 0 (s.1 82 11))) = some (Sum.inr e) := hs
      cases hs
      have ei : i.toInt = 16 := by omega
      rw [ei] at jr
      have a10 : s.1 82 10 = m.1 82 10 := by rw [jr]; rfl
      have a11 : s.1 82 11 = m.1 82 11 := by rw [jr]; rfl
      refine ⟨a10, j2, fun b k => ?_⟩
      show (dc_wi (dc_wi s 82 64 0) 115 0 (s.1 82 11)).1 b k = _
      by_cases g1 : b = 82 ∧ k = 64
      · rw [if_pos g1, wi_k (by omega), g1.1, g1.2]
        exact wi_s
      · rw [if_neg g1]
        by_cases g2 : b = 115 ∧ k = 0
        · rw [if_pos g2, g2.1, g2.2, ← a11]
          exact wi_s
        · rw [if_neg g2, wi_k g2, wi_k g1, jr]
    · rw [if_neg hlt] at hs
      cases hs
  · show m.1 b k = tcA m (0 : Int32).toInt b k
    unfold tcA
    rw [show (0 : Int32).toInt = 0 from rfl, if_neg (by omega), if_neg (by omega)]
theorem tc_117 {m : dc_M} {z : Int32 × dc_M} (h : d_X10_text_l117 82 0 m = some z) : z.1 = m.1 82 10 ∧ z.2.2 = m.2 ∧ ∀ b k, z.2.1 b k = if b = 82 ∧ k = 64 then 0 else if b = 115 ∧ k = 0 then m.1 82 11 else if 83 ≤ b ∧ b ≤ 84 ∧ k < 6 then m.1 (b + 9) k else tcA m 16 b k := by
  unfold d_X10_text_l117 at h
  refine dc_lp_inv (fun s : Int32 × dc_M => (0 ≤ s.1.toInt ∧ s.1.toInt ≤ 6) ∧ s.2.2 = m.2 ∧ ∀ b k, s.2.1 b k = tcB m s.1.toInt b k) (fun z : Int32 × dc_M => z.1 = m.1 82 10 ∧ z.2.2 = m.2 ∧ ∀ b k, z.2.1 b k = if b = 82 ∧ k = 64 then 0 else if b = 115 ∧ k = 0 then m.1 82 11 else if 83 ≤ b ∧ b ≤ 84 ∧ k < 6 then m.1 (b + 9) k else tcA m 16 b k) (fun s s' hI hs => ?_) (fun s e hI hs => ?_) ⟨⟨show 0 ≤ (0 : Int32).toInt by decide, show (0 : Int32).toInt ≤ 6 by decide⟩, rfl, fun b k => ?_⟩ h
  · obtain ⟨i, s⟩ := s
    obtain ⟨⟨i0, i1'⟩, j2, jr⟩ := hI
    have i0 : 0 ≤ i.toInt := i0
    have jr : ∀ b k, s.1 b k = tcB m i.toInt b k := jr
    have hs : d_X10_text_l117b 82 i s = some (.inl s') := hs
    unfold d_X10_text_l117b at hs
    have hn := cl_n i0
    by_cases hlt : 6 ≤ i.toInt
    · rw [if_pos hlt] at hs
      cases hz : d_X10_text_l155 82 0 s with
      | none => rw [hz] at hs; cases hs
      | some z => rw [hz] at hs; cases hs
    · rw [if_neg hlt] at hs
      have hs : some (Sum.inl (i + 1, tcV s i.toNatClampNeg)) = some (Sum.inl s') := hs
      cases hs
      have p1 : (i + 1).toInt = i.toInt + 1 := i1 (by omega) (Int32.le_toInt _)
      refine ⟨⟨by show 0 ≤ (i + 1).toInt; omega, by show (i + 1).toInt ≤ 6; omega⟩, j2, fun b k => ?_⟩
      show (tcV s i.toNatClampNeg).1 b k = tcB m (i + 1).toInt b k
      rw [tcV_eq, jr, jr]
      unfold tcB
      by_cases g1 : 83 ≤ b ∧ b ≤ 84 ∧ k = i.toNatClampNeg
      · rw [if_pos g1, if_neg (by omega), if_pos (by omega)]
      · rw [if_neg g1]
        by_cases g3 : 83 ≤ b ∧ b ≤ 84 ∧ (k : Int) < i.toInt
        · rw [if_pos g3, if_pos (by omega)]
        · rw [if_neg g3, if_neg (by omega)]
  · obtain ⟨i, s⟩ := s
    obtain ⟨⟨i0, i1'⟩, j2, jr⟩ := hI
    have i1' : i.toInt ≤ 6 := i1'
    have jr : ∀ b k, s.1 b k = tcB m i.toInt b k := jr
    have hs : d_X10_text_l117b 82 i s = some (.inr e) := hs
    unfold d_X10_text_l117b at hs
    by_cases hlt : 6 ≤ i.toInt
    · rw [if_pos hlt] at hs
      cases hz : d_X10_text_l155 82 0 s with
      | none => rw [hz] at hs; cases hs
      | some z =>
        rw [hz] at hs
        cases hs
        have ei : i.toInt = 6 := by omega
        rw [ei] at jr
        obtain ⟨t1, t2, t3⟩ := tc_155 hz
        have a10 : s.1 82 10 = m.1 82 10 := by rw [jr]; rfl
        have a11 : s.1 82 11 = m.1 82 11 := by rw [jr]; rfl
        refine ⟨t1.trans a10, t2.trans j2, fun b k => ?_⟩
        rw [t3, a11]
        by_cases g1 : b = 82 ∧ k = 64
        · rw [if_pos g1, if_pos g1]
        · rw [if_neg g1, if_neg g1]
          by_cases g2 : b = 115 ∧ k = 0
          · rw [if_pos g2, if_pos g2]
          · rw [if_neg g2, if_neg g2]
            unfold tcA
            rw [jr, jr]
            unfold tcB
            by_cases g3 : 83 ≤ b ∧ b ≤ 84 ∧ k < 6
            · rw [if_pos g3, if_neg (by omega), if_neg (by omega), if_pos (by omega)]
            · rw [if_neg g3]
              by_cases g4 : 85 ≤ b ∧ b ≤ 89 ∧ (k : Int) < 16
              · rw [if_pos g4, if_pos g4, if_neg (by omega)]
              · rw [if_neg g4, if_neg g4, if_neg (show ¬ (83 ≤ b ∧ b ≤ 84 ∧ (k : Int) < 6) by omega)]
    · rw [if_neg hlt] at hs
      cases hs
  · show m.1 b k = tcB m (0 : Int32).toInt b k
    unfold tcB
    rw [show (0 : Int32).toInt = 0 from rfl, if_neg (by omega)]
/-- a text that is taken, by the reference -/
theorem tc_55 {m : dc_M} {z : Int32 × dc_M} (h0 : m.1 82 15 = 0) (h : d_X10_text_b55 82 m = some z) : z.1 = m.1 82 30 ∧ z.2.2 = m.2 ∧ (z.2.1 82 14 = 0 ∧ z.2.1 82 13 = 0 ∧ z.2.1 82 0 = m.1 82 21 ∧ z.2.1 82 3 = m.1 82 24 ∧ z.2.1 82 10 = m.1 82 30 ∧ z.2.1 82 11 = m.1 82 31 ∧ z.2.1 82 64 = 0 ∧ z.2.1 115 0 = m.1 82 31) ∧ (∀ b k, 83 ≤ b → b ≤ 84 → k < 6 → z.2.1 b k = m.1 (b + 9) k) ∧ (∀ b k, 85 ≤ b → b ≤ 89 → k < 16 → z.2.1 b k = m.1 (b + 9) k) ∧ (∀ k, k < 16 → z.2.1 90 k = 1) := by
  unfold d_X10_text_b55 at h
  rw [if_pos (by show (m.1 82 15).toInt ≤ 0; rw [h0]; decide)] at h
  obtain ⟨t1, t2, t3⟩ := tc_117 h
  refine ⟨t1, t2, ⟨?_, ?_, ?_, ?_, ?_, ?_, ?_, ?_⟩, fun b k h1 h2 h3 => ?_, fun b k h1 h2 h3 => ?_, fun k h3 => ?_⟩
  · rw [t3]; exact h0
  · rw [t3]; rfl
  · rw [t3]; rfl
  · rw [t3]; rfl
  · rw [t3]; rfl
  · rw [t3]; rfl
  · rw [t3]; rfl
  · rw [t3]; rfl
  · rw [t3, if_neg (by omega), if_neg (by omega), if_pos ⟨h1, h2, h3⟩]
    rw [wi_k (by omega), wi_k (by omega), wi_k (by omega), wi_k (by omega), wi_k (by omega), wi_k (by omega)]
  · rw [t3, if_neg (by omega), if_neg (by omega), if_neg (by omega)]
    unfold tcA
    rw [if_pos ⟨h1, h2, by omega⟩]
    rw [wi_k (by omega), wi_k (by omega), wi_k (by omega), wi_k (by omega), wi_k (by omega), wi_k (by omega)]
  · rw [t3, if_neg (by omega), if_neg (by omega), if_neg (by omega)]
    unfold tcA
    rw [if_neg (by omega), if_pos ⟨rfl, by omega⟩]
/-- what a text comes to: both take it, or both find the same fault -/
def TO (a : Nat) (z z' : Int32 × dc_M) : Prop := (z.1 = 1 ∧ ∃ p K m, LV p a K 0 0 z.2 m ∧ d_X10_text_b55 82 m = some z') ∨ (z.1 = 0 ∧ ∃ f g, dd f g z.2 ∧ z'.1 = -10 - g ∧ z'.2.1 82 14 = f ∧ z'.2.1 82 13 = 0 ∧ 0 < f.toInt)
theorem dd.l33 {f g x : Int32} {c : dc_M} {z : Int32 × dc_M} (d : dd f g c) (h : d_X4_readInto_l33 2 x c = some z) : z.1 = 0 ∧ dd f g z.2 := by
  unfold d_X4_readInto_l33 at h
  rw [dc_lp_eq] at h
  have h0 : d_X4_readInto_l33s 2 (x, c) = d_X4_readInto_l33b 2 x c := rfl
  rw [h0] at h
  unfold d_X4_readInto_l33b d_X4_readInto_b64 at h
  have hz : ¬ (c.1 2 2).toInt = 0 := by rw [d.1]; exact d.2.2.1
  rw [if_pos hz, if_pos hz] at h
  have h : (if (240 : Int) ≤ x.toInt then some (Sum.inr ((0 : Int32), c)) else some (Sum.inr ((0 : Int32), c))).bind (dc_bk (d_X4_readInto_l33s 2)) = some z := h
  rw [ite_self] at h
  cases h
  exact ⟨rfl, d⟩
theorem de.l34 {f g : Int32} {m : dc_M} {z : Int32 × dc_M} (d : de f g m) (h : d_X10_text_l34 82 m = some z) : z.1 = -10 - g ∧ z.2.1 82 14 = f ∧ z.2.1 82 13 = 0 := by
  unfold d_X10_text_l34 at h
  rw [dc_lp_eq] at h
  have h0 : d_X10_text_l34s 82 m = d_X10_text_l34b 82 m := rfl
  rw [h0] at h
  unfold d_X10_text_l34b at h
  rw [if_pos d.nz] at h
  unfold d_X10_text_b55 at h
  rw [if_neg (by show ¬ (m.1 82 15).toInt ≤ 0; rw [d.1]; have := d.2.2; omega)] at h
  have h : some ((-10 : Int32) - m.1 82 16, dc_wi (dc_wi m 82 13 0) 82 14 (m.1 82 15)) = some z := h
  have h := Option.some.inj h
  rw [← h]
  refine ⟨?_, ?_, rfl⟩
  · show -10 - m.1 82 16 = _
    rw [d.2.1]
  · show m.1 82 15 = f
    exact d.1
theorem tx_lp {a : Nat} {K : Int32 × Int32} {x : Int32} {c m : dc_M} {z z' : Int32 × dc_M} (l : LV x.toInt a K 0 0 c m) (hx : 0 ≤ x.toInt) (h1 : d_X4_readInto_l33 2 x c = some z) (h2 : d_X10_text_l34 82 m = some z') : TO a z z' := by
  unfold d_X4_readInto_l33 at h1
  unfold d_X10_text_l34 at h2
  refine dc_lp_s3 (s := (x, c)) (t := m) (fun (s : Int32 × dc_M) (t : dc_M) => 0 ≤ s.1.toInt ∧ ∃ K, LV s.1.toInt a K 0 0 s.2 t) (TO a) (fun s t z z' hI hf hg => ?_) ⟨hx, K, l⟩ h1 h2
  obtain ⟨x, c⟩ := s
  obtain ⟨hx, K, l⟩ := hI
  have hx : 0 ≤ x.toInt := hx
  have l : LV x.toInt a K 0 0 c t := l
  have ⟨g, hn, N, hk⟩ := l
  have e5 : c.1 2 5 = t.1 82 19 := g.2.1.2.2.1
  have hz : (c.1 2 2).toInt = 0 := by rw [g.n1]; rfl
  rw [dc_lp_eq] at hf hg
  have hf0 : d_X4_readInto_l33s 2 (x, c) = d_X4_readInto_l33b 2 x c := rfl
  have hg0 : d_X10_text_l34s 82 t = d_X10_text_l34b 82 t := rfl
  rw [hf0] at hf ⊢
  rw [hg0] at hg ⊢
  unfold d_X4_readInto_l33b at hf ⊢
  unfold d_X10_text_l34b at hg ⊢
  rw [if_neg (show ¬ ¬ (t.1 82 15).toInt = 0 from fun q => q (by rw [g.n2]; rfl)), ← e5] at hg ⊢
  rw [if_neg (show ¬ ¬ (c.1 2 2).toInt = 0 from fun q => q hz)] at hf ⊢
  by_cases h5 : (c.1 2 5).toInt = 0
  · right
    rw [if_pos h5] at hf hg
    unfold d_X4_readInto_b64 at hf
    rw [if_neg (show ¬ ¬ (c.1 2 2).toInt = 0 from fun q => q hz), ite_self] at hf
    cases hf
    cases hb : d_X10_text_b55 82 t with
    | none => rw [hb] at hg; cases hg
    | some q =>
      rw [hb] at hg
      cases hg
      exact Or.inl ⟨rfl, _, _, _, l, hb⟩
  · have hp := g.2.2.2 h5
    have hp2 := g.2.1.1.2.2.2.2
    have hp3 := g.1.2.2.1
    rw [if_neg h5, if_neg (by omega)] at hf ⊢
    rw [if_neg h5] at hg ⊢
    cases hr1 : d_X4_readLine 2 c with
    | none => rw [hr1] at hf; cases hf
    | some q1 =>
      cases hr2 : d_X10_readLine 82 t with
      | none => rw [hr2] at hg; cases hg
      | some q2 =>
        rw [hr1, Option.bind_some] at hf
        rw [hr2, Option.bind_some] at hg
        rw [Option.bind_some, Option.bind_some]
        rcases ln_sim l hr1 hr2 with ⟨K', l'⟩ | ⟨f, v, d1, d2⟩
        · left
          have p1 : (x + 1).toInt = x.toInt + 1 := i1 (by omega) (Int32.le_toInt _)
          exact ⟨_, _, rfl, rfl, by show 0 ≤ (x + 1).toInt; omega, K', l'.mono (by show (x + 1).toInt ≤ _; omega)⟩
        · obtain ⟨z1, z2⟩ := d1.l33 hf
          obtain ⟨y1, y2⟩ := d2.l34 hg
          exact Or.inr (Or.inr ⟨z1, f, v, z2, y1, y2.1, y2.2, d2.2.2⟩)
theorem tx_sim {a : Nat} {c m : dc_M} {z z' : Int32 × dc_M} (ha : a = 41 ∨ a = 52) (t : tp c m) (h1 : d_X4_readInto 2 a c = some z) (h2 : d_X10_text 82 m = some z') : TO a z z' := by
  unfold d_X4_readInto d_X4_readInto_b5 at h1
  rw [show (dc_wr c 2 8 a).2.2.1 2 8 = a from rfl, dc_let_eq] at h1
  unfold d_X10_text at h2
  generalize hC : dc_wi (dc_wi (dc_wi (d_X3_clear a (dc_wr c 2 8 a)) 2 2 0) 2 3 0) 2 4 0 = C at h1
  generalize hM : dc_wi (dc_wi (dc_wi (dc_wi (dc_wi (dc_wi m 82 15 0) 82 17 0) 82 21 0) 82 24 0) 82 30 0) 82 31 0 = M at h2
  have C0 : C.1 a 0 = 0 ∧ C.1 a 1 = 0 ∧ C.1 a 2 = 0 ∧ C.1 a 13 = 0 := by
    rw [← hC]
    rcases ha with rfl | rfl <;> exact ⟨rfl, rfl, rfl, rfl⟩
  have C2 : C.1 2 2 = 0 ∧ C.1 2 4 = 0 ∧ C.1 2 1 = c.1 2 1 := by
    rw [← hC]
    rcases ha with rfl | rfl <;> exact ⟨rfl, rfl, rfl⟩
  have C3 : ∀ j, C.1 3 j = c.1 3 j := fun j => by
    rw [← hC]
    rcases ha with rfl | rfl <;> rfl
  have C8 : C.2.2.1 2 8 = a := by
    rw [← hC]
    rfl
  have M0 : M.1 82 15 = 0 ∧ M.1 82 17 = 0 ∧ M.1 82 21 = 0 ∧ M.1 82 24 = 0 ∧ M.1 82 30 = 0 ∧ M.1 82 31 = 0 ∧ M.1 82 13 = m.1 82 13 := by
    rw [← hM]
    exact ⟨rfl, rfl, rfl, rfl, rfl, rfl, rfl⟩
  have M3 : ∀ j, M.1 91 j = m.1 91 j := fun j => by
    rw [← hM]
    rfl
  obtain ⟨c0, c1, c2, c13⟩ := C0
  obtain ⟨b2, b4, b1⟩ := C2
  obtain ⟨m15, m17, m21, m24, m30, m31, m13⟩ := M0
  have T : tp C M := by
    obtain ⟨t1, t2, t3, t4⟩ := t
    refine ⟨by rw [b1, m13, t1], by rw [b1]; exact t2, by rw [b1]; exact t3, fun j hj => ?_⟩
    rw [C3, M3]
    exact t4 j hj
  have nn : nf C M := ⟨b2, m15, by rw [b4, m17], by rw [b4]; decide, by rw [b4, b1]; exact t.2.1⟩
  have NN : NT a 0 0 C M := by
    refine ⟨⟨c0.trans m21.symm, ?_, ?_, fun j hj => ?_⟩, ⟨c1.trans m24.symm, ?_, ?_, fun j hj => ?_⟩, fun k _ _ => ⟨b32_0, b32_0⟩, ⟨c2.trans m30.symm, ?_, ?_, c13.trans m31.symm, fun k _ _ => (congrArg (fun x => b32 x k) c13).trans b32_0⟩, fun p hp => ?_⟩
    · show 0 ≤ (C.1 a 0).toInt
      rw [c0]; decide
    · show (C.1 a 0).toInt ≤ 6
      rw [c0]; decide
    · have hj : (j : Int) < (C.1 a 0).toInt := hj
      rw [c0, show (0 : Int32).toInt = 0 from rfl] at hj
      omega
    · show 0 ≤ (C.1 a 1).toInt
      rw [c1]; decide
    · show (C.1 a 1).toInt ≤ 16
      rw [c1]; decide
    · have hj : (j : Int) < (C.1 a 1).toInt := hj
      rw [c1, show (0 : Int32).toInt = 0 from rfl] at hj
      omega
    · show 0 ≤ (C.1 a 2).toInt
      rw [c2]; decide
    · show (C.1 a 2).toInt ≤ 20
      rw [c2]; decide
    · have hp : (p : Int) < (C.1 a 2).toInt := hp
      rw [c2, show (0 : Int32).toInt = 0 from rfl] at hp
      omega
  cases t1 : d_X4_take 2 C with
  | none => rw [t1] at h1; cases h1
  | some e =>
    cases t2 : d_X10_next 82 M with
    | none => rw [t2] at h2; cases h2
    | some e' =>
      rw [t1, Option.bind_some] at h1
      rw [t2, Option.bind_some] at h2
      obtain ⟨x, y, q⟩ := take_next T nn t1 t2
      have hn' : e.2.2.1 2 8 = a := by rw [x.2]; exact C8
      rcases q with ⟨k, pr⟩ | f
      · refine tx_lp (K := (e.1 a 2, e.1 a 0)) ⟨⟨T.fr x y, k, by rw [hn']; exact ha, fun q => ?_⟩, hn', NN.fr ha x y, rfl, rfl⟩ (by decide) h1 h2
        have := pr q
        rw [b4] at this
        exact this
      · obtain ⟨f, g, d1, d2⟩ := DD.ft f (by rw [hn']; exact ha)
        obtain ⟨z1, z2⟩ := d1.l33 h1
        obtain ⟨y1, y2⟩ := d2.l34 h2
        exact Or.inr ⟨z1, f, g, z2, y1, y2.1, y2.2, d2.2.2⟩
