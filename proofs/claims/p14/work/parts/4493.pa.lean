/-! ===== the net while it is read: words, letters, signs ===== -/
theorem dc_lp_s3 {σ τ σ' τ' : Type} {f : σ → Option (σ ⊕ τ)} {g : σ' → Option (σ' ⊕ τ')} (R : σ → σ' → Prop) (E : τ → τ' → Prop) (h1 : ∀ s t e e', R s t → dc_lp f s = some e → dc_lp g t = some e' → (∃ s' t', f s = some (.inl s') ∧ g t = some (.inl t') ∧ R s' t') ∨ E e e') {s : σ} {t : σ'} {e : τ} {e' : τ'} (hs : R s t) (hf : dc_lp f s = some e) (hg : dc_lp g t = some e') : E e e' := by
  obtain ⟨n, hn⟩ := dc_lp_to hf
  clear hf
  induction n generalizing s t with
  | zero => cases hn
  | succ n ih =>
    rcases h1 s t e e' hs (dc_lp_of hn) hg with ⟨s', t', hf', hg', r⟩ | r
    · unfold dc_it at hn
      rw [hf'] at hn
      rw [dc_lp_eq, hg'] at hg
      exact ih r hg hn
    · exact r
/-- alive: a token is at hand -/
def GV (p : Int) (c m : dc_M) : Prop := tp c m ∧ tk c m ∧ (c.2.2.1 2 8 = 41 ∨ c.2.2.1 2 8 = 52) ∧ ((c.1 2 5).toInt ≠ 0 → p < (c.1 2 4).toInt)
/-- the same fault on both sides -/
def DD (c m : dc_M) : Prop := ∃ f g, dd f g c ∧ de f g m
theorem DD.ft {c m : dc_M} (h : ft c m) (hn : c.2.2.1 2 8 = 41 ∨ c.2.2.1 2 8 = 52) : DD c m := ⟨c.1 2 2, c.1 2 3, ⟨rfl, rfl, by have := h.1; omega, hn⟩, ⟨h.2.1.symm, h.2.2.symm, h.1⟩⟩
theorem GV.mono {p q : Int} {c m : dc_M} (g : GV p c m) (h : q ≤ p) : GV q c m := ⟨g.1, g.2.1, g.2.2.1, fun z => by have := g.2.2.2 z; omega⟩
theorem GV.take1 {p : Int} {c m e e' : dc_M} (g : GV p c m) (h1 : d_X4_take 2 c = some e) (h2 : d_X10_next 82 m = some e') : (GV (c.1 2 4).toInt e e' ∧ fc c e ∧ fm m e') ∨ DD e e' := by
  obtain ⟨t, k, hn, hp⟩ := g
  obtain ⟨x, y, q⟩ := take_next t k.1 h1 h2
  have hn' : e.2.2.1 2 8 = 41 ∨ e.2.2.1 2 8 = 52 := by rw [x.2]; exact hn
  rcases q with ⟨k', pr⟩ | f
  · exact Or.inl ⟨⟨t.fr x y, k', hn', pr⟩, x, y⟩
  · exact Or.inr (DD.ft f hn')
theorem GV.take {p : Int} {c m e e' : dc_M} (g : GV p c m) (hs : (c.1 2 5).toInt ≠ 0) (h1 : d_X4_take 2 c = some e) (h2 : d_X10_next 82 m = some e') : (GV p e e' ∧ fc c e ∧ fm m e') ∨ DD e e' := by
  have hp := g.2.2.2 hs
  rcases g.take1 h1 h2 with ⟨a, b⟩ | d
  · exact Or.inl ⟨a.mono (by omega), b⟩
  · exact Or.inr d
theorem GV.n1 {p : Int} {c m : dc_M} (g : GV p c m) : c.1 2 2 = 0 := g.2.1.1.1
theorem GV.n2 {p : Int} {c m : dc_M} (g : GV p c m) : m.1 82 15 = 0 := g.2.1.1.2.1
theorem GV.pl {p : Int} {c m : dc_M} (g : GV p c m) : c.1 2 6 = m.1 82 18 := g.2.1.2.1
theorem GV.rf {p : Int} {c m : dc_M} {w x y : Int32} (g : GV p c m) (hw : 0 < w.toInt) (hab : x = y) : DD (d_X4_refuse 2 w x c) (d_X10_failsAt 82 w y m) := by
  obtain ⟨q1, q2, q3⟩ := ft_mk (w := w) g.n1 g.n2 hw hab
  exact DD.ft q1 (by rw [q2.2]; exact g.2.2.1)
/-! letters, signs, numbers -/
theorem nv_s {t : Nat → Int32} {a k : Nat} (h : k < 5) : nv t a (k + 1) = 32 * nv t a k + (t (a + k)).toInt - 96 := if_pos h
theorem nv_x {t : Nat → Int32} {a k : Nat} (h : 6 ≤ k) : nv t a k = -1 := by
  obtain ⟨j, rfl⟩ : ∃ j, k = j + 1 := ⟨k - 1, by omega⟩
  exact if_neg (by omega)
theorem nv_1 {t : Nat → Int32} {a k : Nat} (h1 : 1 ≤ k) (h5 : k ≤ 5) (hl : ∀ j, j < k → sml (t (a + j))) : 1 ≤ nv t a k := by
  obtain ⟨j, rfl⟩ : ∃ j, k = j + 1 := ⟨k - 1, by omega⟩
  have q := (nv_5 (t := t) (a := a) (k := j) (by omega) (fun i hi => hl i (by omega))).1
  have s := hl j (by omega)
  unfold sml at s
  rw [nv_s (by omega)]
  omega
theorem nv_2 {t : Nat → Int32} {a k : Nat} (h1 : 2 ≤ k) (hl : ∀ j, j < k → sml (t (a + j))) : nv t a k = -1 ∨ 33 ≤ nv t a k := by
  by_cases h6 : 6 ≤ k
  · exact Or.inl (nv_x h6)
  · obtain ⟨j, rfl⟩ : ∃ j, k = j + 1 := ⟨k - 1, by omega⟩
    have q := nv_1 (t := t) (a := a) (k := j) (by omega) (by omega) (fun i hi => hl i (by omega))
    have s := hl j (by omega)
    unfold sml at s
    rw [nv_s (by omega)]
    omega
/-- the letters of a name at hand -/
theorem tk.name {c m : dc_M} (t : tp c m) (k : tk c m) (h : (c.1 2 5).toInt = 1) : ∃ K : Nat, 1 ≤ K ∧ (c.1 2 4 - c.1 2 6).toInt = K ∧ (c.1 2 6).toInt + K ≤ 240 ∧ (∀ j, j < K → sml (c.1 3 ((c.1 2 6).toNatClampNeg + j))) ∧ (m.1 82 20).toInt = nv (c.1 3) (c.1 2 6).toNatClampNeg K ∧ c.1 2 7 = c.1 3 (c.1 2 6).toNatClampNeg := by
  obtain ⟨n, e6, e5, a0, a1, q⟩ := k
  obtain ⟨-, -, -, n4, n5⟩ := n
  have tl := t.2.2.1
  have p6 := cl_n a0
  have p4 := cl_n n4
  rcases q with q | ⟨-, b1, l, v, b⟩ | ⟨q, -⟩ | ⟨q, -⟩
  · omega
  · exact ⟨(c.1 2 4).toNatClampNeg - (c.1 2 6).toNatClampNeg, by omega, by rw [sub_i ⟨n4, by omega⟩ ⟨a0, by omega⟩]; omega, by omega, fun j hj => l _ (by omega) (by omega), v, b⟩
  · omega
  · omega
theorem tk.letter {c m : dc_M} (t : tp c m) (k : tk c m) : ((d_X4_isLetter 2 c).toInt = 0 ∧ (d_X10_isLetter 82 m).toInt = 0) ∨ (¬ (d_X4_isLetter 2 c).toInt = 0 ∧ ¬ (d_X10_isLetter 82 m).toInt = 0 ∧ (c.1 2 5).toInt = 1 ∧ c.1 2 7 - 97 = m.1 82 20 - 1) := by
  have e5 : c.1 2 5 = m.1 82 19 := k.2.2.1
  unfold d_X4_isLetter d_X10_isLetter
  rw [← e5]
  by_cases h1 : (c.1 2 5).toInt = 1
  · obtain ⟨K, k1, k2, k3, k4, k5, k6⟩ := k.name t h1
    rw [if_neg (show ¬ ¬ (c.1 2 5).toInt = 1 from fun q => q h1), if_neg (show ¬ ¬ (c.1 2 5).toInt = 1 from fun q => q h1), k2]
    by_cases h2 : (K : Int) = 1
    · obtain rfl : K = 1 := by omega
      have s := k4 0 (by omega)
      have v : (m.1 82 20).toInt = (c.1 2 7).toInt - 96 := by
        rw [k5, nv_s (by omega), k6]
        show 32 * 0 + _ - 96 = _
        rw [Nat.add_zero]
        omega
      rw [Nat.add_zero, ← k6] at s
      unfold sml at s
      refine Or.inr ⟨by rw [if_neg (fun q => q h2)]; decide, ?_, h1, ?_⟩
      · rw [if_neg (fun q => ((in_0 (a := 1) (b := 26) rfl rfl).mp q) (by omega))]
        decide
      · refine Int32.toInt_inj.mp ?_
        rw [Int32.toInt_sub, Int32.toInt_sub, show (97 : Int32).toInt = 97 from rfl, show (1 : Int32).toInt = 1 from rfl, sx_bm (by omega) (by omega), sx_bm (by omega) (by omega)]
        omega
    · refine Or.inl ⟨by rw [if_pos h2]; rfl, ?_⟩
      have q := nv_2 (t := c.1 3) (a := (c.1 2 6).toNatClampNeg) (k := K) (by omega) k4
      rw [if_pos ((in_0 (a := 1) (b := 26) rfl rfl).mpr (by rw [k5]; omega))]
      rfl
  · rw [if_pos h1, if_pos h1]
    exact Or.inl ⟨rfl, rfl⟩
theorem tk.sign {c m : dc_M} (k : tk c m) (x : Int32) : ((d_X4_isSign 2 x c).toInt = 0 ↔ (d_X10_isSign 82 x m).toInt = 0) ∧ (¬ (d_X4_isSign 2 x c).toInt = 0 → (c.1 2 5).toInt = 3 ∧ (c.1 2 7).toInt = x.toInt) := by
  obtain ⟨n, e6, e5, a0, a1, q⟩ := k
  unfold d_X4_isSign d_X10_isSign
  rw [← e5]
  by_cases h1 : (c.1 2 5).toInt = 3
  · rcases q with q | ⟨q, -⟩ | ⟨q, -⟩ | ⟨-, -, v⟩
    · omega
    · omega
    · omega
    · rw [v, if_neg (fun q => q h1)]
      refine ⟨Iff.rfl, fun h => ⟨h1, ?_⟩⟩
      by_cases h2 : (c.1 2 7).toInt = x.toInt
      · exact h2
      · rw [if_pos h2] at h
        exact absurd rfl h
  · rw [if_pos h1, if_pos h1]
    exact ⟨Iff.rfl, fun h => absurd rfl h⟩
theorem tk.num {c m : dc_M} (k : tk c m) (h : (c.1 2 5).toInt = 2) : fig (c.1 2 7) ∧ c.1 2 7 - 48 = m.1 82 20 := by
  obtain ⟨n, e6, e5, a0, a1, q⟩ := k
  rcases q with q | ⟨q, -⟩ | ⟨-, q1, q2⟩ | ⟨q, -⟩
  · omega
  · omega
  · refine ⟨q1, Int32.toInt_inj.mp ?_⟩
    unfold fig at q1
    rw [Int32.toInt_sub, show (48 : Int32).toInt = 48 from rfl, sx_bm (by omega) (by omega), q2]
  · omega
/-! words -/
theorem iw_loop {c : dc_M} {w L : Nat} {ch : Nat → Int} (hl : (d_J0_length_8abf5 w c).toInt = L) (hc : ∀ j, j < L → (d_J0_charAt_5068e w (Int32.ofNat j) c).toInt = ch j) (hL : L ≤ 5) (h0 : 0 ≤ (c.1 2 6).toInt) (hat : (c.1 2 6).toInt + L ≤ 240) : ∀ n i r, i + n = L → d_X4_isWord_l28 2 w (Int32.ofNat i) c = some r → (r.toInt = 0 ↔ ¬ ∀ j, i ≤ j → j < L → (c.1 3 ((c.1 2 6).toNatClampNeg + j)).toInt = ch j)
  | 0, i, r, hi, h => by
    unfold d_X4_isWord_l28 at h
    rw [dc_lp_eq] at h
    change (d_X4_isWord_l28b 2 w (Int32.ofNat i) c).bind (dc_bk (d_X4_isWord_l28s 2 w c)) = some r at h
    unfold d_X4_isWord_l28b at h
    rw [hl, mk_i (by omega), if_pos (by omega)] at h
    cases h
    exact ⟨fun q => absurd q (by decide), fun q => (q (fun j h1 h2 => by omega)).elim⟩
  | n + 1, i, r, hi, h => by
    unfold d_X4_isWord_l28 at h
    rw [dc_lp_eq] at h
    change (d_X4_isWord_l28b 2 w (Int32.ofNat i) c).bind (dc_bk (d_X4_isWord_l28s 2 w c)) = some r at h
    unfold d_X4_isWord_l28b at h
    have e1 : (c.1 2 6 + Int32.ofNat i).toInt = (c.1 2 6).toInt + i := by rw [Int32.toInt_add, mk_i (by omega), sx_bm (by omega) (by omega)]
    have e2 : (c.1 2 6 + Int32.ofNat i).toNatClampNeg = (c.1 2 6).toNatClampNeg + i := by
      have a := cl_n h0
      have b := cl_n (x := c.1 2 6 + Int32.ofNat i) (by omega)
      omega
    rw [hl, mk_i (by omega), if_neg (by omega), e1, if_neg (by omega), hc i (by omega), e2, show 2 + 1 = 3 from rfl] at h
    by_cases hq : (c.1 3 ((c.1 2 6).toNatClampNeg + i)).toInt = ch i
    · rw [if_pos hq] at h
      have h : d_X4_isWord_l28 2 w (Int32.ofNat i + 1) c = some r := h
      have e3 : Int32.ofNat i + 1 = Int32.ofNat (i + 1) := by
        refine Int32.toInt_inj.mp ?_
        rw [i1 (by rw [mk_i (by omega)]; omega) (Int32.le_toInt _), mk_i (by omega), mk_i (by omega)]
        omega
      rw [e3] at h
      rw [iw_loop hl hc hL h0 hat n (i + 1) r (by omega) h]
      refine ⟨fun q z => q (fun j j1 j2 => z j (by omega) j2), fun q z => q (fun j j1 j2 => ?_)⟩
      by_cases hj : j = i
      · rw [hj]; exact hq
      · exact z j (by omega) j2
    · rw [if_neg hq] at h
      cases h
      exact ⟨fun _ z => hq (z i (Nat.le_refl _) (by omega)), fun _ => rfl⟩
theorem iw {c m : dc_M} {r : Int32} {w L : Nat} {V : Int} {ch : Nat → Int} (t : tp c m) (k : tk c m) (hl : (d_J0_length_8abf5 w c).toInt = L) (hc : ∀ j, j < L → (d_J0_charAt_5068e w (Int32.ofNat j) c).toInt = ch j) (hL : L ≤ 5) (hV : ∀ (t : Nat → Int32) (a k : Nat), 1 ≤ k → (∀ j, j < k → sml (t (a + j))) → (nv t a k = V ↔ k = L ∧ ∀ j, j < L → (t (a + j)).toInt = ch j)) (h : d_X4_isWord 2 w c = some r) : r.toInt = 0 ↔ ¬ ((c.1 2 5).toInt = 1 ∧ (m.1 82 20).toInt = V) := by
  unfold d_X4_isWord at h
  by_cases h1 : (c.1 2 5).toInt = 1
  · obtain ⟨K, k1, k2, k3, k4, k5, k6⟩ := k.name t h1
    rw [if_neg (fun q => q h1), k2, hl] at h
    have hv := hV (c.1 3) (c.1 2 6).toNatClampNeg K k1 k4
    rw [← k5] at hv
    by_cases h2 : (K : Int) = L
    · obtain rfl : K = L := by omega
      rw [if_pos rfl] at h
      rw [iw_loop hl hc hL k.2.2.2.1 k3 K 0 r (by omega) h]
      refine ⟨fun q z => q (fun j _ j2 => (hv.mp z.2).2 j j2), fun q z => q ⟨h1, hv.mpr ⟨rfl, fun j j2 => z j (by omega) j2⟩⟩⟩
    · rw [if_neg h2] at h
      cases h
      exact ⟨fun _ z => h2 (by rw [(hv.mp z.2).1]), fun _ => rfl⟩
  · rw [if_pos h1] at h
    cases h
    exact ⟨fun _ z => h1 z.1, fun _ => rfl⟩
def wl (l : List Int) (j : Nat) : Int := l.getD j 0
theorem hv_in (t : Nat → Int32) (a k : Nat) (h1 : 1 ≤ k) (hl : ∀ j, j < k → sml (t (a + j))) : nv t a k = 302 ↔ k = 2 ∧ ∀ j, j < 2 → (t (a + j)).toInt = wl [105, 110] j := by
  have n0 : nv t a 0 = 0 := rfl
  have n1 : nv t a 1 = 32 * nv t a 0 + (t (a + 0)).toInt - 96 := nv_s (by omega)
  have n2 : nv t a 2 = 32 * nv t a 1 + (t (a + 1)).toInt - 96 := nv_s (by omega)
  have n3 : nv t a 3 = 32 * nv t a 2 + (t (a + 2)).toInt - 96 := nv_s (by omega)
  have n4 : nv t a 4 = 32 * nv t a 3 + (t (a + 3)).toInt - 96 := nv_s (by omega)
  have n5 : nv t a 5 = 32 * nv t a 4 + (t (a + 4)).toInt - 96 := nv_s (by omega)
  have q0 := hl 0
  have q1 := hl 1
  have q2 := hl 2
  have q3 := hl 3
  have q4 := hl 4
  unfold sml at q0 q1 q2 q3 q4
  constructor
  · intro h
    by_cases h6 : 6 ≤ k
    · rw [nv_x h6] at h; omega
    have hk : k = 2 := by
      rcases (show k = 1 ∨ k = 2 ∨ k = 3 ∨ k = 4 ∨ k = 5 by omega) with rfl | rfl | rfl | rfl | rfl <;> omega
    subst hk
    refine ⟨rfl, fun j hj => ?_⟩
    rcases (show j = 0 ∨ j = 1 by omega) with rfl | rfl
    · show _ = (105 : Int); omega
    · show _ = (110 : Int); omega
  · rintro ⟨rfl, h⟩
    have a0 : _ = (105 : Int) := h 0 (by omega)
    have a1 : _ = (110 : Int) := h 1 (by omega)
    omega
theorem hv_out (t : Nat → Int32) (a k : Nat) (h1 : 1 ≤ k) (hl : ∀ j, j < k → sml (t (a + j))) : nv t a k = 16052 ↔ k = 3 ∧ ∀ j, j < 3 → (t (a + j)).toInt = wl [111, 117, 116] j := by
  have n0 : nv t a 0 = 0 := rfl
  have n1 : nv t a 1 = 32 * nv t a 0 + (t (a + 0)).toInt - 96 := nv_s (by omega)
  have n2 : nv t a 2 = 32 * nv t a 1 + (t (a + 1)).toInt - 96 := nv_s (by omega)
  have n3 : nv t a 3 = 32 * nv t a 2 + (t (a + 2)).toInt - 96 := nv_s (by omega)
  have n4 : nv t a 4 = 32 * nv t a 3 + (t (a + 3)).toInt - 96 := nv_s (by omega)
  have n5 : nv t a 5 = 32 * nv t a 4 + (t (a + 4)).toInt - 96 := nv_s (by omega)
  have q0 := hl 0
  have q1 := hl 1
  have q2 := hl 2
  have q3 := hl 3
  have q4 := hl 4
  unfold sml at q0 q1 q2 q3 q4
  constructor
  · intro h
    by_cases h6 : 6 ≤ k
    · rw [nv_x h6] at h; omega
    have hk : k = 3 := by
      rcases (show k = 1 ∨ k = 2 ∨ k = 3 ∨ k = 4 ∨ k = 5 by omega) with rfl | rfl | rfl | rfl | rfl <;> omega
    subst hk
    refine ⟨rfl, fun j hj => ?_⟩
    rcases (show j = 0 ∨ j = 1 ∨ j = 2 by omega) with rfl | rfl | rfl
    · show _ = (111 : Int); omega
    · show _ = (117 : Int); omega
    · show _ = (116 : Int); omega
  · rintro ⟨rfl, h⟩
    have a0 : _ = (111 : Int) := h 0 (by omega)
    have a1 : _ = (117 : Int) := h 1 (by omega)
    have a2 : _ = (116 : Int) := h 2 (by omega)
    omega
theorem hv_5 {b0 b1 b2 b3 b4 V : Int} (g0 : 97 ≤ b0 ∧ b0 ≤ 122) (g1 : 97 ≤ b1 ∧ b1 ≤ 122) (g2 : 97 ≤ b2 ∧ b2 ≤ 122) (g3 : 97 ≤ b3 ∧ b3 ≤ 122) (g4 : 97 ≤ b4 ∧ b4 ≤ 122) (hV : 32 * (32 * (32 * (32 * (b0 - 96) + (b1 - 96)) + (b2 - 96)) + (b3 - 96)) + (b4 - 96) = V) (t : Nat → Int32) (a k : Nat) (h1 : 1 ≤ k) (hl : ∀ j, j < k → sml (t (a + j))) : nv t a k = V ↔ k = 5 ∧ ∀ j, j < 5 → (t (a + j)).toInt = wl [b0, b1, b2, b3, b4] j := by
  have n0 : nv t a 0 = 0 := rfl
  have n1 : nv t a 1 = 32 * nv t a 0 + (t (a + 0)).toInt - 96 := nv_s (by omega)
  have n2 : nv t a 2 = 32 * nv t a 1 + (t (a + 1)).toInt - 96 := nv_s (by omega)
  have n3 : nv t a 3 = 32 * nv t a 2 + (t (a + 2)).toInt - 96 := nv_s (by omega)
  have n4 : nv t a 4 = 32 * nv t a 3 + (t (a + 3)).toInt - 96 := nv_s (by omega)
  have n5 : nv t a 5 = 32 * nv t a 4 + (t (a + 4)).toInt - 96 := nv_s (by omega)
  have q0 := hl 0
  have q1 := hl 1
  have q2 := hl 2
  have q3 := hl 3
  have q4 := hl 4
  unfold sml at q0 q1 q2 q3 q4
  have dg : ∀ {x d y e : Int}, 32 * x + d - 96 = 32 * y + (e - 96) → 97 ≤ d ∧ d ≤ 122 → 97 ≤ e ∧ e ≤ 122 → x = y ∧ d = e := fun {x d y e} h h1 h2 => by omega
  constructor
  · intro h
    by_cases h6 : 6 ≤ k
    · rw [nv_x h6] at h; omega
    have hk : k = 5 := by
      rcases (show k = 1 ∨ k = 2 ∨ k = 3 ∨ k = 4 ∨ k = 5 by omega) with rfl | rfl | rfl | rfl | rfl <;> omega
    subst hk
    obtain ⟨d4, c4⟩ := dg (n5.symm.trans (h.trans hV.symm)) (q4 (by omega)) g4
    obtain ⟨d3, c3⟩ := dg (n4.symm.trans d4) (q3 (by omega)) g3
    obtain ⟨d2, c2⟩ := dg (n3.symm.trans d3) (q2 (by omega)) g2
    obtain ⟨d1, c1⟩ := dg (n2.symm.trans d2) (q1 (by omega)) g1
    refine ⟨rfl, fun j hj => ?_⟩
    rcases (show j = 0 ∨ j = 1 ∨ j = 2 ∨ j = 3 ∨ j = 4 by omega) with rfl | rfl | rfl | rfl | rfl
    · show _ = b0; omega
    · exact c1
    · exact c2
    · exact c3
    · exact c4
  · rintro ⟨rfl, h⟩
    have a0 : _ = b0 := h 0 (by omega)
    have a1 : _ = b1 := h 1 (by omega)
    have a2 : _ = b2 := h 2 (by omega)
    have a3 : _ = b3 := h 3 (by omega)
    have a4 : _ = b4 := h 4 (by omega)
    omega
theorem iw_l1 {c : dc_M} : (d_J0_length_8abf5 1 c).toInt = (2 : Nat) := by
  unfold d_J0_length_8abf5 d_J0_coder_7d493
  decide +kernel
theorem iw_c1 {c : dc_M} : ∀ j, j < 2 → (d_J0_charAt_5068e 1 (Int32.ofNat j) c).toInt = wl [105, 110] j := by
  unfold d_J0_charAt_5068e d_J1_charAt_3b067
  decide +kernel
theorem iw_l2 {c : dc_M} : (d_J0_length_8abf5 2 c).toInt = (3 : Nat) := by
  unfold d_J0_length_8abf5 d_J0_coder_7d493
  decide +kernel
theorem iw_c2 {c : dc_M} : ∀ j, j < 3 → (d_J0_charAt_5068e 2 (Int32.ofNat j) c).toInt = wl [111, 117, 116] j := by
  unfold d_J0_charAt_5068e d_J1_charAt_3b067
  decide +kernel
theorem iw_l3 {c : dc_M} : (d_J0_length_8abf5 3 c).toInt = (5 : Nat) := by
  unfold d_J0_length_8abf5 d_J0_coder_7d493
  decide +kernel
theorem iw_c3 {c : dc_M} : ∀ j, j < 5 → (d_J0_charAt_5068e 3 (Int32.ofNat j) c).toInt = wl [105, 110, 110, 101, 114] j := by
  unfold d_J0_charAt_5068e d_J1_charAt_3b067
  decide +kernel
theorem iw_l4 {c : dc_M} : (d_J0_length_8abf5 4 c).toInt = (5 : Nat) := by
  unfold d_J0_length_8abf5 d_J0_coder_7d493
  decide +kernel
theorem iw_c4 {c : dc_M} : ∀ j, j < 5 → (d_J0_charAt_5068e 4 (Int32.ofNat j) c).toInt = wl [112, 108, 97, 99, 101] j := by
  unfold d_J0_charAt_5068e d_J1_charAt_3b067
  decide +kernel
theorem iw_1 {c m : dc_M} {r : Int32} (t : tp c m) (k : tk c m) (h : d_X4_isWord 2 1 c = some r) : r.toInt = 0 ↔ ¬ ((c.1 2 5).toInt = 1 ∧ (m.1 82 20).toInt = 302) := iw (L := 2) (ch := wl [105, 110]) t k iw_l1 iw_c1 (by omega) hv_in h
theorem iw_2 {c m : dc_M} {r : Int32} (t : tp c m) (k : tk c m) (h : d_X4_isWord 2 2 c = some r) : r.toInt = 0 ↔ ¬ ((c.1 2 5).toInt = 1 ∧ (m.1 82 20).toInt = 16052) := iw (L := 3) (ch := wl [111, 117, 116]) t k iw_l2 iw_c2 (by omega) hv_out h
theorem iw_3 {c m : dc_M} {r : Int32} (t : tp c m) (k : tk c m) (h : d_X4_isWord 2 3 c = some r) : r.toInt = 0 ↔ ¬ ((c.1 2 5).toInt = 1 ∧ (m.1 82 20).toInt = 9910450) := iw (L := 5) (ch := wl [105, 110, 110, 101, 114]) t k iw_l3 iw_c3 (by omega) (hv_5 (by omega) (by omega) (by omega) (by omega) (by omega) (by omega)) h
theorem iw_4 {c m : dc_M} {r : Int32} (t : tp c m) (k : tk c m) (h : d_X4_isWord 2 4 c = some r) : r.toInt = 0 ↔ ¬ ((c.1 2 5).toInt = 1 ∧ (m.1 82 20).toInt = 17171557) := iw (L := 5) (ch := wl [112, 108, 97, 99, 101]) t k iw_l4 iw_c4 (by omega) (hv_5 (by omega) (by omega) (by omega) (by omega) (by omega) (by omega)) h
