/-! ===== taken back: triples, counted in two ways, and the first of them ===== -/
theorem smw_0w : ∀ n_w, smw (fun _ => 0) n_w = 0
  | 0 => rfl
  | n_w + 1 => by
    unfold smw
    rw [smw_0w n_w]
theorem smw_zw {f : Nat → Nat} (n_w : Nat) (h : ∀ k, k < n_w → f k = 0) : smw f n_w = 0 := (@smw_c f (fun _ => 0) n_w h).trans (smw_0w n_w)
/-- two sums changed round -/
theorem swap_w {P : Nat → Nat → Bool} (m_w : Nat) : ∀ n_w, smw (fun i_w => ctw (fun j_w => P i_w j_w) m_w) n_w = smw (fun j_w => ctw (fun i_w => P i_w j_w) n_w) m_w
  | 0 => (smw_zw m_w (fun _ _ => rfl)).symm
  | n_w + 1 => by
    have e1_w : smw (fun j_w => ctw (fun i_w => P i_w j_w) (n_w + 1)) m_w = smw (fun j_w => ctw (fun i_w => P i_w j_w) n_w + (if P n_w j_w = true then 1 else 0)) m_w := smw_c m_w (fun j_w _ => rfl)
    have e2_w : smw (fun i_w => ctw (fun j_w => P i_w j_w) m_w) (n_w + 1) = smw (fun i_w => ctw (fun j_w => P i_w j_w) m_w) n_w + ctw (fun j_w => P n_w j_w) m_w := rfl
    rw [e1_w, e2_w, smw_a, smw_ct (p := fun j_w => P n_w j_w), swap_w m_w n_w]
theorem smw_mw {f : Nat → Nat} {B_w : Nat} (h : ∀ k, f k ≤ B_w) : ∀ n_w, smw f n_w ≤ B_w * n_w
  | 0 => Nat.zero_le _
  | n_w + 1 => by
    have a_w := smw_mw h n_w
    have b_w := h n_w
    have c_w : smw f (n_w + 1) = smw f n_w + f n_w := rfl
    rw [c_w, Nat.mul_succ]
    omega
def TCw (H : Nat → Nat → Nat → Bool) (E_w s i_w j_w : Nat) : Nat := smw (fun s => smw (fun i_w => ctw (fun j_w => H s i_w j_w) E_w) E_w) s + smw (fun i_w => ctw (fun j_w => H s i_w j_w) E_w) i_w + ctw (fun j_w => H s i_w j_w) j_w
theorem TCw.bw {H : Nat → Nat → Nat → Bool} {E_w s i_w j_w : Nat} (hE : E_w ≤ 16) (hs : s ≤ 200) (hi_w : i_w ≤ E_w) (hj : j_w ≤ E_w) : TCw H E_w s i_w j_w ≤ 100000 := by
  have a1_w : ∀ s i_w, ctw (fun j_w => H s i_w j_w) E_w ≤ 16 := fun s i_w => Nat.le_trans (ctw_le E_w) hE
  have a2 : ∀ s, smw (fun i_w => ctw (fun j_w => H s i_w j_w) E_w) E_w ≤ 256 := fun s => by
    have := smw_mw (f := fun i_w => ctw (fun j_w => H s i_w j_w) E_w) (a1_w s) E_w
    omega
  have a3 := smw_mw (f := fun s => smw (fun i_w => ctw (fun j_w => H s i_w j_w) E_w) E_w) a2 s
  have a4 := smw_mw (f := fun i_w => ctw (fun j_w => H s i_w j_w) E_w) (a1_w s) i_w
  have a5 := ctw_le (p := fun j_w => H s i_w j_w) j_w
  unfold TCw
  omega
theorem TCw.jw {H : Nat → Nat → Nat → Bool} {E_w s i_w j_w : Nat} : TCw H E_w s i_w (j_w + 1) = TCw H E_w s i_w j_w + (if H s i_w j_w = true then 1 else 0) := by
  unfold TCw
  have e : ctw (fun j_w => H s i_w j_w) (j_w + 1) = ctw (fun j_w => H s i_w j_w) j_w + (if H s i_w j_w = true then 1 else 0) := rfl
  rw [e]
  exact (Nat.add_assoc _ _ _).symm
theorem TCw.iw {H : Nat → Nat → Nat → Bool} {E_w s i_w : Nat} : TCw H E_w s i_w E_w = TCw H E_w s (i_w + 1) 0 := by
  unfold TCw
  have e : smw (fun i_w => ctw (fun j_w => H s i_w j_w) E_w) (i_w + 1) = smw (fun i_w => ctw (fun j_w => H s i_w j_w) E_w) i_w + ctw (fun j_w => H s i_w j_w) E_w := rfl
  have z_w : ctw (fun j_w => H s (i_w + 1) j_w) 0 = 0 := rfl
  rw [e, z_w]
  omega
theorem TCw.sw {H : Nat → Nat → Nat → Bool} {E_w s : Nat} : TCw H E_w s E_w 0 = TCw H E_w (s + 1) 0 0 := by
  unfold TCw
  have e : smw (fun s => smw (fun i_w => ctw (fun j_w => H s i_w j_w) E_w) E_w) (s + 1) = smw (fun s => smw (fun i_w => ctw (fun j_w => H s i_w j_w) E_w) E_w) s + smw (fun i_w => ctw (fun j_w => H s i_w j_w) E_w) E_w := rfl
  have z_w : ctw (fun j_w => H (s + 1) 0 j_w) 0 = 0 := rfl
  have z1 : ctw (fun j_w => H s E_w j_w) 0 = 0 := rfl
  have z2 : smw (fun i_w => ctw (fun j_w => H (s + 1) i_w j_w) E_w) 0 = 0 := rfl
  rw [e, z_w, z1, z2]
theorem TCw.zw {H : Nat → Nat → Nat → Bool} {E_w : Nat} : TCw H E_w 0 0 0 = 0 := rfl
theorem TCw.xw {H : Nat → Nat → Nat → Bool} {E_w n_w : Nat} : TCw (fun s e k => H s k e) E_w n_w 0 0 = TCw H E_w n_w 0 0 := by
  unfold TCw
  have e : smw (fun s => smw (fun i_w => ctw (fun j_w => H s j_w i_w) E_w) E_w) n_w = smw (fun s => smw (fun i_w => ctw (fun j_w => H s i_w j_w) E_w) E_w) n_w := smw_c n_w (fun s _ => swap_w (P := fun i_w j_w => H s j_w i_w) E_w E_w)
  rw [e]
  rfl
/-- the order of triples -/
def lxw (a_w b_w c_w s k e : Nat) : Prop := a_w < s ∨ (a_w = s ∧ (b_w < k ∨ (b_w = k ∧ c_w ≤ e)))
def FBw (X_w : Nat → Nat → Nat → Prop) (H : Nat → Nat → Nat → Bool) (f1_w f2_w f3_w cn : Int32) : Prop := (cn.toInt = 0 ∧ f1_w = -4 ∧ f2_w = -4 ∧ f3_w = -4 ∧ ∀ s k e, X_w s k e → H s k e = false) ∨ (0 < cn.toInt ∧ ∃ a_w b_w c_w : Nat, (a_w < 200 ∧ b_w < 16 ∧ c_w < 16) ∧ f1_w = Int32.ofNat a_w ∧ f2_w = Int32.ofNat b_w ∧ f3_w = Int32.ofNat c_w ∧ X_w a_w b_w c_w ∧ H a_w b_w c_w = true ∧ ∀ s k e, X_w s k e → H s k e = true → lxw a_w b_w c_w s k e)
theorem FBw.skw {X_w Y : Nat → Nat → Nat → Prop} {H : Nat → Nat → Nat → Bool} {f1_w f2_w f3_w cn : Int32} (h : FBw X_w H f1_w f2_w f3_w cn) (e1_w : ∀ s k e, Y s k e → X_w s k e ∨ H s k e = false) (e2_w : ∀ s k e, X_w s k e → Y s k e) : FBw Y H f1_w f2_w f3_w cn := by
  rcases h with ⟨h1, h2, h3, h4, h5⟩ | ⟨h1, a_w, b_w, c_w, h2, h3, h4, h5, h6, h7, h8⟩
  · exact Or.inl ⟨h1, h2, h3, h4, fun s k e hy => (e1_w s k e hy).elim (h5 s k e) id⟩
  · refine Or.inr ⟨h1, a_w, b_w, c_w, h2, h3, h4, h5, e2_w a_w b_w c_w h6, h7, fun s k e hy hp => ?_⟩
    rcases e1_w s k e hy with hx | hx
    · exact h8 s k e hx hp
    · rw [hx] at hp; cases hp
theorem FBw.ifw {X_w Y : Nat → Nat → Nat → Prop} {H : Nat → Nat → Nat → Bool} {f1_w f2_w f3_w cn : Int32} (h : FBw X_w H f1_w f2_w f3_w cn) (e : ∀ s k e, X_w s k e ↔ Y s k e) : FBw Y H f1_w f2_w f3_w cn := h.skw (fun s k r_w hy => Or.inl ((e s k r_w).mpr hy)) (fun s k r_w hx => (e s k r_w).mp hx)
/-- one more, behind the first -/
theorem FBw.kpw {X_w Y : Nat → Nat → Nat → Prop} {H : Nat → Nat → Nat → Bool} {f1_w f2_w f3_w cn cn' : Int32} {s k e : Nat} (h : FBw X_w H f1_w f2_w f3_w cn) (hz : cn.toInt ≠ 0) (hc_w : 0 < cn'.toInt) (e2_w : ∀ s k e, X_w s k e → Y s k e) (e1_w : ∀ s' k' e', Y s' k' e' → X_w s' k' e' ∨ (s' = s ∧ k' = k ∧ e' = e)) (e3_w : ∀ a_w b_w c_w : Nat, f1_w = Int32.ofNat a_w → f2_w = Int32.ofNat b_w → a_w < 200 → b_w < 16 → X_w a_w b_w c_w → lxw a_w b_w c_w s k e) : FBw Y H f1_w f2_w f3_w cn' := by
  rcases h with ⟨h1, -⟩ | ⟨h1, a_w, b_w, c_w, h2, h3, h4, h5, h6, h7, h8⟩
  · exact absurd h1 hz
  · refine Or.inr ⟨hc_w, a_w, b_w, c_w, h2, h3, h4, h5, e2_w a_w b_w c_w h6, h7, fun s' k' e' hy hp => ?_⟩
    rcases e1_w s' k' e' hy with hx | ⟨hx1, hx2, hx3⟩
    · exact h8 s' k' e' hx hp
    · rw [hx1, hx2, hx3]
      exact e3_w a_w b_w c_w h3 h4 h2.1 h2.2.1 h6
/-- one more, ahead of the first -/
theorem FBw.nww {X_w Y : Nat → Nat → Nat → Prop} {H : Nat → Nat → Nat → Bool} {f1_w f2_w f3_w cn cn' : Int32} {s k e : Nat} (h : FBw X_w H f1_w f2_w f3_w cn) (hb_w : s < 200 ∧ k < 16 ∧ e < 16) (hc_w : 0 < cn'.toInt) (hy : Y s k e) (hH : H s k e = true) (e1_w : ∀ s' k' e', Y s' k' e' → X_w s' k' e' ∨ (s' = s ∧ k' = k ∧ e' = e)) (e3_w : cn.toInt = 0 ∨ ∀ a_w b_w c_w : Nat, f1_w = Int32.ofNat a_w → f2_w = Int32.ofNat b_w → a_w < 200 → b_w < 16 → X_w a_w b_w c_w → lxw s k e a_w b_w c_w) : FBw Y H (Int32.ofNat s) (Int32.ofNat k) (Int32.ofNat e) cn' := by
  refine Or.inr ⟨hc_w, s, k, e, hb_w, rfl, rfl, rfl, hy, hH, fun s' k' e' hy hp => ?_⟩
  rcases e1_w s' k' e' hy with hx | ⟨hx1, hx2, hx3⟩
  · rcases h with ⟨-, -, -, -, h5⟩ | ⟨h1, a_w, b_w, c_w, h2, h3, h4, h5, h6, h7, h8⟩
    · have := h5 s' k' e' hx
      rw [this] at hp
      cases hp
    · rcases e3_w with q | q
      · omega
      · have p1_w := q a_w b_w c_w h3 h4 h2.1 h2.2.1 h6
        have p2_w := h8 s' k' e' hx hp
        unfold lxw at p1_w p2_w ⊢
        omega
  · rw [hx1, hx2, hx3]
    exact Or.inr ⟨rfl, Or.inr ⟨rfl, Nat.le_refl _⟩⟩
theorem FBw.uqw {X_w Y : Nat → Nat → Nat → Prop} {H : Nat → Nat → Nat → Bool} {f1_w f2_w f3_w cn g1 g2 g3_w cn' : Int32} (h1 : FBw X_w H f1_w f2_w f3_w cn) (h2 : FBw Y H g1 g2 g3_w cn') (e : ∀ s k r_w, X_w s k r_w ↔ Y s k r_w) (ec : cn.toInt = cn'.toInt) : f1_w = g1 ∧ f2_w = g2 ∧ f3_w = g3_w := by
  rcases h1 with ⟨a1_w, a2, a3, a4, -⟩ | ⟨a1_w, a_w, b_w, c_w, -, a3, a4, a5, a6, a7, a8⟩
  · rcases h2 with ⟨b1, b2, b3, b4, -⟩ | ⟨b1, -⟩
    · exact ⟨a2.trans b2.symm, a3.trans b3.symm, a4.trans b4.symm⟩
    · omega
  · rcases h2 with ⟨b1, -⟩ | ⟨b1, a', b', c', -, b3, b4, b5, b6, b7, b8⟩
    · omega
    · have r1_w := a8 a' b' c' ((e a' b' c').mpr b6) b7
      have r2 := b8 a_w b_w c_w ((e a_w b_w c_w).mp a6) a7
      unfold lxw at r1_w r2
      have ea : a_w = a' := by omega
      have eb : b_w = b' := by omega
      have eg : c_w = c' := by omega
      rw [a3, a4, a5, b3, b4, b5, ea, eb, eg]
      exact ⟨rfl, rfl, rfl⟩
/-! the class: states, events that end a_w rise, events that are taken back -/
def XCw (E_w s e k s' k' e' : Nat) : Prop := k' < E_w ∧ e' < E_w ∧ (s' < s ∨ (s' = s ∧ (e' < e ∨ (e' = e ∧ k' < k))))
def BKc (H : Nat → Nat → Nat → Bool) (E_w s e k : Nat) (m_w : dc_M) : Prop := (m_w.1 12 4).toInt = ((TCw (fun s e k => H s k e) E_w s e k : Nat) : Int) ∧ FBw (XCw E_w s e k) H (m_w.1 12 5) (m_w.1 12 6) (m_w.1 12 7) (m_w.1 12 4)
def XRw (E_w s k e s' k' e' : Nat) : Prop := k' < E_w ∧ e' < E_w ∧ (s' < s ∨ (s' = s ∧ (k' < k ∨ (k' = k ∧ e' < e))))
def BKr (H : Nat → Nat → Nat → Bool) (E_w s k e : Nat) (m_w : dc_M) : Prop := (m_w.1 82 43).toInt = ((TCw H E_w s k e : Nat) : Int) ∧ FBw (XRw E_w s k e) H (m_w.1 82 44) (m_w.1 82 45) (m_w.1 82 46) (m_w.1 82 43)
theorem BKc.bdw {H : Nat → Nat → Nat → Bool} {E_w s e k : Nat} {m_w : dc_M} (hE : E_w ≤ 16) (hs : s ≤ 200) (he : e ≤ E_w) (hk : k ≤ E_w) (q : BKc H E_w s e k m_w) : 0 ≤ (m_w.1 12 4).toInt ∧ (m_w.1 12 4).toInt ≤ 100000 := by
  have b_w := TCw.bw (H := fun s e k => H s k e) hE hs he hk
  have a_w := q.1
  omega
theorem BKr.bdw {H : Nat → Nat → Nat → Bool} {E_w s k e : Nat} {m_w : dc_M} (hE : E_w ≤ 16) (hs : s ≤ 200) (hk : k ≤ E_w) (he : e ≤ E_w) (q : BKr H E_w s k e m_w) : 0 ≤ (m_w.1 82 43).toInt ∧ (m_w.1 82 43).toInt ≤ 100000 := by
  have b_w := TCw.bw (H := H) hE hs hk he
  have a_w := q.1
  omega
theorem BKc.now {H : Nat → Nat → Nat → Bool} {E_w s e k : Nat} {m_w : dc_M} (q : BKc H E_w s e k m_w) (h : H s k e = false) : BKc H E_w s e (k + 1) m_w := by
  refine ⟨?_, q.2.skw (fun s' k' e' hy => ?_) (fun s' k' e' hx => ?_)⟩
  · rw [TCw.jw, if_neg (show ¬ H s k e = true by rw [h]; decide)]
    exact q.1
  · unfold XCw at hy ⊢
    by_cases z_w : s' = s ∧ e' = e ∧ k' = k
    · refine Or.inr ?_
      rw [z_w.1, z_w.2.1, z_w.2.2]
      exact h
    · exact Or.inl (by omega)
  · unfold XCw at hx ⊢
    omega
theorem BKc.kpw {H : Nat → Nat → Nat → Bool} {E_w s e k : Nat} {m_w M_w : dc_M} (b_w : k < E_w ∧ e < E_w ∧ E_w ≤ 16 ∧ s < 200) (q : BKc H E_w s e k m_w) (h : H s k e = true) (hz : (m_w.1 12 4).toInt ≠ 0) (hk : ∀ a_w b_w : Nat, m_w.1 12 5 = Int32.ofNat a_w → m_w.1 12 6 = Int32.ofNat b_w → a_w < 200 → b_w < 16 → a_w = s → b_w ≤ k) (e4_w : M_w.1 12 4 = m_w.1 12 4 + 1) (e5_w : M_w.1 12 5 = m_w.1 12 5) (e6_w : M_w.1 12 6 = m_w.1 12 6) (e7_w : M_w.1 12 7 = m_w.1 12 7) : BKc H E_w s e (k + 1) M_w := by
  have bd := q.bdw b_w.2.2.1 (by omega) (by omega) (by omega)
  have e4' : (M_w.1 12 4).toInt = (m_w.1 12 4).toInt + 1 := by rw [e4_w]; exact i1 (by omega) (Int32.le_toInt _)
  refine ⟨?_, ?_⟩
  · rw [TCw.jw, if_pos (show H s k e = true from h), e4', q.1]
    omega
  · rw [e5_w, e6_w, e7_w]
    refine q.2.kpw (s := s) (k := k) (e := e) hz (by omega) (fun s' k' e' hx => ?_) (fun s' k' e' hy => ?_) (fun a' b' c' h1 h2 h3 h4 h5 => ?_)
    · unfold XCw at hx ⊢
      omega
    · unfold XCw at hy ⊢
      omega
    · have := hk a' b' h1 h2 h3 h4
      unfold XCw at h5
      unfold lxw
      omega
theorem BKc.nww {H : Nat → Nat → Nat → Bool} {E_w s e k : Nat} {m_w M_w : dc_M} (b_w : k < E_w ∧ e < E_w ∧ E_w ≤ 16 ∧ s < 200) (q : BKc H E_w s e k m_w) (h : H s k e = true) (hk : (m_w.1 12 4).toInt = 0 ∨ ∀ a_w b_w : Nat, m_w.1 12 5 = Int32.ofNat a_w → m_w.1 12 6 = Int32.ofNat b_w → a_w < 200 → b_w < 16 → a_w = s ∧ k < b_w) (e4_w : M_w.1 12 4 = m_w.1 12 4 + 1) (e5_w : M_w.1 12 5 = Int32.ofNat s) (e6_w : M_w.1 12 6 = Int32.ofNat k) (e7_w : M_w.1 12 7 = Int32.ofNat e) : BKc H E_w s e (k + 1) M_w := by
  have bd := q.bdw b_w.2.2.1 (by omega) (by omega) (by omega)
  have e4' : (M_w.1 12 4).toInt = (m_w.1 12 4).toInt + 1 := by rw [e4_w]; exact i1 (by omega) (Int32.le_toInt _)
  refine ⟨?_, ?_⟩
  · rw [TCw.jw, if_pos (show H s k e = true from h), e4', q.1]
    omega
  · rw [e5_w, e6_w, e7_w]
    refine q.2.nww (by omega) (by omega) ?_ h (fun s' k' e' hy => ?_) (hk.imp id (fun hk a' b' c' h1 h2 h3 h4 h5 => ?_))
    · unfold XCw
      omega
    · unfold XCw at hy ⊢
      omega
    · have := hk a' b' h1 h2 h3 h4
      unfold lxw
      omega
theorem BKc.ew {H : Nat → Nat → Nat → Bool} {E_w s e : Nat} {m_w : dc_M} (q : BKc H E_w s e E_w m_w) : BKc H E_w s (e + 1) 0 m_w := by
  refine ⟨?_, q.2.ifw (fun s' k' e' => ?_)⟩
  · rw [← TCw.iw]
    exact q.1
  · unfold XCw
    omega
theorem BKc.sw {H : Nat → Nat → Nat → Bool} {E_w s : Nat} {m_w : dc_M} (q : BKc H E_w s E_w 0 m_w) : BKc H E_w (s + 1) 0 0 m_w := by
  refine ⟨?_, q.2.ifw (fun s' k' e' => ?_)⟩
  · rw [← TCw.sw]
    exact q.1
  · unfold XCw
    omega
/-- an event with nothing taken back -/
theorem BKc.zw {H : Nat → Nat → Nat → Bool} {E_w s e : Nat} {m_w : dc_M} (q : BKc H E_w s e 0 m_w) (h : ∀ k, k < E_w → H s k e = false) : BKc H E_w s (e + 1) 0 m_w := by
  have key_w : ∀ k, k ≤ E_w → BKc H E_w s e k m_w := fun k => by
    induction k with
    | zero => exact fun _ => q
    | succ k ih => exact fun hk => (ih (by omega)).now (h k (by omega))
  exact (key_w E_w (Nat.le_refl _)).ew
theorem BKr.now {H : Nat → Nat → Nat → Bool} {E_w s k e : Nat} {m_w : dc_M} (q : BKr H E_w s k e m_w) (h : H s k e = false) : BKr H E_w s k (e + 1) m_w := by
  refine ⟨?_, q.2.skw (fun s' k' e' hy => ?_) (fun s' k' e' hx => ?_)⟩
  · rw [TCw.jw, if_neg (show ¬ H s k e = true by rw [h]; decide)]
    exact q.1
  · unfold XRw at hy ⊢
    by_cases z_w : s' = s ∧ e' = e ∧ k' = k
    · refine Or.inr ?_
      rw [z_w.1, z_w.2.1, z_w.2.2]
      exact h
    · exact Or.inl (by omega)
  · unfold XRw at hx ⊢
    omega
theorem BKr.htw {H : Nat → Nat → Nat → Bool} {E_w s k e : Nat} {m_w M_w : dc_M} (b_w : k < E_w ∧ e < E_w ∧ E_w ≤ 16 ∧ s < 200) (q : BKr H E_w s k e m_w) (h : H s k e = true) (e3_w : M_w.1 82 43 = m_w.1 82 43 + 1) (e4_w : M_w.1 82 44 = if (m_w.1 82 43).toInt = 0 then Int32.ofNat s else m_w.1 82 44) (e5_w : M_w.1 82 45 = if (m_w.1 82 43).toInt = 0 then Int32.ofNat k else m_w.1 82 45) (e6_w : M_w.1 82 46 = if (m_w.1 82 43).toInt = 0 then Int32.ofNat e else m_w.1 82 46) : BKr H E_w s k (e + 1) M_w := by
  have bd := q.bdw b_w.2.2.1 (by omega) (by omega) (by omega)
  have e3' : (M_w.1 82 43).toInt = (m_w.1 82 43).toInt + 1 := by rw [e3_w]; exact i1 (by omega) (Int32.le_toInt _)
  refine ⟨?_, ?_⟩
  · rw [TCw.jw, if_pos (show H s k e = true from h), e3', q.1]
    omega
  · by_cases z_w : (m_w.1 82 43).toInt = 0
    · rw [e4_w, e5_w, e6_w, if_pos z_w, if_pos z_w, if_pos z_w]
      refine q.2.nww (by omega) (by omega) ?_ h (fun s' k' e' hy => ?_) (Or.inl z_w)
      · unfold XRw
        omega
      · unfold XRw at hy ⊢
        omega
    · rw [e4_w, e5_w, e6_w, if_neg z_w, if_neg z_w, if_neg z_w]
      refine q.2.kpw (s := s) (k := k) (e := e) z_w (by omega) (fun s' k' e' hx => ?_) (fun s' k' e' hy => ?_) (fun a' b' c' h1 h2 h3 h4 h5 => ?_)
      · unfold XRw at hx ⊢
        omega
      · unfold XRw at hy ⊢
        omega
      · unfold XRw at h5
        unfold lxw
        omega
theorem BKr.ew {H : Nat → Nat → Nat → Bool} {E_w s k : Nat} {m_w : dc_M} (q : BKr H E_w s k E_w m_w) : BKr H E_w s (k + 1) 0 m_w := by
  refine ⟨?_, q.2.ifw (fun s' k' e' => ?_)⟩
  · rw [← TCw.iw]
    exact q.1
  · unfold XRw
    omega
theorem BKr.sw {H : Nat → Nat → Nat → Bool} {E_w s : Nat} {m_w : dc_M} (q : BKr H E_w s E_w 0 m_w) : BKr H E_w (s + 1) 0 0 m_w := by
  refine ⟨?_, q.2.ifw (fun s' k' e' => ?_)⟩
  · rw [← TCw.sw]
    exact q.1
  · unfold XRw
    omega
theorem BKr.zw {H : Nat → Nat → Nat → Bool} {E_w s k : Nat} {m_w : dc_M} (q : BKr H E_w s k 0 m_w) (h : ∀ e, e < E_w → H s k e = false) : BKr H E_w s (k + 1) 0 m_w := by
  have key_w : ∀ e, e ≤ E_w → BKr H E_w s k e m_w := fun e => by
    induction e with
    | zero => exact fun _ => q
    | succ e ih => exact fun hk => (ih (by omega)).now (h e (by omega))
  exact (key_w E_w (Nat.le_refl _)).ew
theorem beq_w {H : Nat → Nat → Nat → Bool} {E_w n_w : Nat} {c_w m_w : dc_M} (Q_w : BKc H E_w n_w 0 0 c_w) (R_w : BKr H E_w n_w 0 0 m_w) : c_w.1 12 4 = m_w.1 82 43 ∧ c_w.1 12 5 = m_w.1 82 44 ∧ c_w.1 12 6 = m_w.1 82 45 ∧ c_w.1 12 7 = m_w.1 82 46 := by
  have q1_w := Q_w.1
  have r1_w := R_w.1
  rw [TCw.xw] at q1_w
  have ec : (c_w.1 12 4).toInt = (m_w.1 82 43).toInt := q1_w.trans r1_w.symm
  obtain ⟨e1_w, e2_w, e3_w⟩ := Q_w.2.uqw R_w.2 (fun s k e => by unfold XCw XRw; omega) ec
  exact ⟨Int32.toInt_inj.mp ec, e1_w, e2_w, e3_w⟩
