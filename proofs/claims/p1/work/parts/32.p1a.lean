/-! ===== p1: one call on a fresh object; the fresh heap is a closed run ===== -/
def ab_fb (h : ab_H) (a : Nat) : Option (Nat × List Value) := if a < h.1 then ab_ob (h.2.2 a) else none
theorem ab_fo {S : Nat → Prop} {h g : ab_H} {a ci : Nat} {fs : List Value} (q : ab_sim S h g) (ho : ab_fb h a = some (ci, fs)) (hn : ci ≠ 99) : ab_rd g a = some (.inr (ci, fs)) := by
  unfold ab_fb at ho
  by_cases ha : a < h.1
  · rw [if_pos ha] at ho
    exact (q.rd (show ab_rd h a = some (.inr (ci, fs)) by unfold ab_rd; rw [if_pos ha, ab_ob_of ho]) (ab_bad_n hn)).1
  · rw [if_neg ha] at ho; cases ho
def ab_fr (h : ab_H) (a j : Nat) : Option (Nat × Nat × Int32) := if a < h.1 then (match h.2.2 a with
  | .inl (t, n, .inl f) => some (t, n, f j)
  | _ => none) else none
theorem ab_fa {S : Nat → Prop} {h g : ab_H} {a j t n : Nat} {v : Int32} (q : ab_sim S h g) (ho : ab_fr h a j = some (t, n, v)) : ∃ f, ab_rd g a = some (.inl (t, n, .inl f)) ∧ f j = v := by
  unfold ab_fr at ho
  by_cases ha : a < h.1
  · rw [if_pos ha] at ho
    split at ho
    · rename_i t0 n0 f hx
      cases ho
      exact ⟨f, (q.rd (show ab_rd h a = some (.inl (t, n, .inl f)) by unfold ab_rd; rw [if_pos ha, hx]) ab_bad_l).1, rfl⟩
    · cases ho
  · rw [if_neg ha] at ho; cases ho
def ab_fq (h : ab_H) (a j : Nat) : Option (Nat × Nat × Option Nat) := if a < h.1 then (match h.2.2 a with
  | .inl (t, n, .inr (.inr f)) => some (t, n, f j)
  | _ => none) else none
theorem ab_fqa {S : Nat → Prop} {h g : ab_H} {a j t n : Nat} {v : Option Nat} (q : ab_sim S h g) (ho : ab_fq h a j = some (t, n, v)) : ∃ f, ab_rd g a = some (.inl (t, n, .inr (.inr f))) ∧ f j = v := by
  unfold ab_fq at ho
  by_cases ha : a < h.1
  · rw [if_pos ha] at ho
    split at ho
    · rename_i t0 n0 f hx
      cases ho
      exact ⟨f, (q.rd (show ab_rd h a = some (.inl (t, n, .inr (.inr f))) by unfold ab_rd; rw [if_pos ha, hx]) ab_bad_l).1, rfl⟩
    · cases ho
  · rw [if_neg ha] at ho; cases ho
theorem ab_fit_i (x : Int32) : ab_fit .int (.int x) = true := by
  unfold ab_fit
  rw [Bool.and_eq_true]
  exact ⟨decide_eq_true rfl, rfl⟩
def p1_a : ab_H := ab_nw (1, 0, fun _ => ab_bad) 17 (.inr (9, ab_df 9))
def p1_b : ab_H := ((ab_ex ab_G 1000 999 ab_M_X9_init 0 [(0, .ref 1)] [] p1_a).getD (none, p1_a)).2
def p1_c : ab_H := ab_nw p1_b 70 (.inr (10, ab_df 10))
def p1_H : ab_H := ((ab_ex ab_G 1000 999 ab_M_X10_init 0 [(0, .ref 82)] [] p1_c).getD (none, p1_c)).2
theorem p1_Rb : ab_obs (ab_ex ab_G 1000 999 ab_M_X9_init 0 [(0, .ref 1)] [] p1_a) = some (none, 82, 14142) := by decide +kernel
theorem p1_RH : ab_obs (ab_ex ab_G 1000 999 ab_M_X10_init 0 [(0, .ref 82)] [] p1_c) = some (none, 120, 21717) := by decide +kernel
def p1_Sx : Nat → Prop := fun a => a < 120 ∧ (a = 0 ∨ 81 < a)
def p1_Sm : Nat → Prop := fun a => a ≤ 81
def p1_Hx : ab_H := (120, 21717, fun a => if a < 120 ∧ (a = 0 ∨ 81 < a) then ab_bad else p1_H.2.2 a)
def p1_Hm : ab_H := (120, 21717, fun a => if a ≤ 81 then ab_bad else p1_H.2.2 a)
def p1_X (g g' : ab_H) : Prop := g'.1 = 120 ∧ g'.2.1 = 21717 ∧ ∀ a, p1_Sx a → g'.2.2 a = g.2.2 a
theorem p1_X.next {g g1 g2 : ab_H} (h : p1_X g g1) (f : ∀ a, p1_Sx a → g2.2.2 a = g1.2.2 a) (h1 : g2.1 = 120) (h2 : g2.2.1 = 21717) : p1_X g g2 := ⟨h1, h2, fun a ha => (f a ha).trans (h.2.2 a ha)⟩
theorem p1_X.wr {g h : ab_H} (q : p1_X g h) {a : Nat} (ha : 0 < a ∧ a ≤ 81) (e : ab_E) : p1_X g (ab_wr h a e) := ⟨q.1, q.2.1, fun b hb => (va_up_ne h.2.2 e (fun z => by obtain ⟨-, h2⟩ := hb; omega)).trans (q.2.2 b hb)⟩
def p1_Y (g g' : ab_H) : Prop := g'.1 = 120 ∧ g'.2.1 = 21717 ∧ g'.2.2 0 = g.2.2 0
theorem p1_Y.next {g g1 g2 : ab_H} (h : p1_Y g g1) (f : ∀ a, p1_Sm a → g2.2.2 a = g1.2.2 a) (h1 : g2.1 = 120) (h2 : g2.2.1 = 21717) : p1_Y g g2 := ⟨h1, h2, (f 0 (Nat.zero_le _)).trans h.2.2⟩
theorem p1_Y.wr {g h : ab_H} (q : p1_Y g h) {a : Nat} (ha : a ≠ 0) (e : ab_E) : p1_Y g (ab_wr h a e) := ⟨q.1, q.2.1, (va_up_ne h.2.2 e (fun z => ha z.symm)).trans q.2.2⟩
theorem p1_cell {g : ab_H} (q : ab_sim p1_Sx p1_Hx g) {a : Nat} (ha : 0 < a ∧ a ≤ 81) : g.2.2 a = p1_H.2.2 a := by
  rw [← q.2.2.1 a (show a < 120 by omega) (fun z => by obtain ⟨-, z⟩ := z; omega)]
  show (if a < 120 ∧ (a = 0 ∨ 81 < a) then ab_bad else p1_H.2.2 a) = _
  rw [if_neg (by omega)]
theorem ab_wr_at {h : ab_H} {a b : Nat} {e : ab_E} (hb : b ≠ a) : (ab_wr h a e).2.2 b = h.2.2 b := va_up_ne _ _ hb
theorem p1_X.nxt2 {g h g2 : ab_H} {a : Nat} (q : p1_X g h) (f : ∀ b, (b < 120 ∧ b ≠ a) → g2.2.2 b = h.2.2 b) (ha : 0 < a ∧ a ≤ 81) (h1 : g2.1 = 120) (h2 : g2.2.1 = 21717) : p1_X g g2 := ⟨h1, h2, fun b hb => (f b ⟨hb.1, fun z => by obtain ⟨-, hb⟩ := hb; omega⟩).trans (q.2.2 b hb)⟩
theorem ab_cd_rf (x : Int32) : ab_cd .eq x x = true := decide_eq_true rfl
def p1_F (a : Nat) : ab_H := (120, 21717, fun b => if b < 120 ∧ b ≠ a then ab_bad else p1_H.2.2 b)
theorem p1_fsim {h : ab_H} {a : Nat} (h1 : h.1 = 120) (h2 : h.2.1 = 21717) (hc : h.2.2 a = p1_H.2.2 a) : ab_sim (fun b => b < 120 ∧ b ≠ a) (p1_F a) h := by
  refine ⟨h1.symm, h2.symm, fun b hb hS => ?_, fun b hS => ⟨hS.1, if_pos hS⟩⟩
  have hb : b < 120 := hb
  have e : b = a := by
    rcases Nat.decEq b a with z | z
    · exact absurd ⟨hb, z⟩ hS
    · exact z
  subst e
  show (if b < 120 ∧ b ≠ b then ab_bad else p1_H.2.2 b) = h.2.2 b
  rw [if_neg (fun z => z.2 rfl), hc]

def an_end (n : Int32) : Int32 := if n.toInt = 0 then 0 else -1
def an_of (s w : Int32) : Int32 := if s.toInt = 0 ∧ 0 ≤ w.toInt ∧ w.toInt ≤ 4 then 0 else -1
def an_quarrels (w : Int32) : Int32 := if 0 ≤ w.toInt ∧ w.toInt ≤ 1 then 0 else if 2 ≤ w.toInt ∧ w.toInt ≤ 3 then -4 else -1
def an_back (w : Int32) : Int32 := if w.toInt = 0 then 0 else if 1 ≤ w.toInt ∧ w.toInt ≤ 3 then -4 else -1
def an_stuck (w : Int32) : Int32 := if w.toInt = 0 then 1 else if 1 ≤ w.toInt ∧ w.toInt ≤ 2 then 0 else -1
def an_cures (w : Int32) : Int32 := if w.toInt = 0 then -4 else if w.toInt = 1 then 0 else -1
def an_beat (w : Int32) : Int32 := if 0 ≤ w.toInt ∧ w.toInt ≤ 2 then -4 else -1
def an_run (w : Int32) : Int32 := if 0 ≤ w.toInt ∧ w.toInt ≤ 2 then 0 else if w.toInt = 3 then -4 else -1
def an_sheet (k l n : Int32) : Int32 := if 0 ≤ k.toInt ∧ k.toInt ≤ 3 ∧ 0 ≤ l.toInt ∧ l.toInt ≤ 2 ∧ n.toInt ≤ 64 then (if n.toInt < 0 then -14 else 1) else -1
def an_lay (k : Int32) : Int32 := if 0 ≤ k.toInt ∧ k.toInt ≤ 3 then -11 else -1
def an_row (k l n : Int32) : Int32 := if 0 ≤ k.toInt ∧ k.toInt ≤ 3 ∧ 0 ≤ l.toInt ∧ l.toInt ≤ 2 ∧ 0 ≤ n.toInt ∧ n.toInt ≤ 64 then -11 else -1
def an_count (w : Int32) : Int32 := if 0 ≤ w.toInt ∧ w.toInt ≤ 5 then 0 else if w.toInt = 6 then -4 else -1
theorem ab_in_n {m n : Nat} (h : m < n) (hn : n < 2 ^ 31) : ab_in (nI m) n = true := by
  have := nI_in h hn
  unfold ab_in
  simpa using this
set_option maxRecDepth 20000 in
theorem m_sheet_loop (K : Nat) (hK : K < 4) {t n : Int32} : ∀ (j i : Nat), i + j = 64 → ∀ {h : ab_H} {fs : List Value} {f : Nat → Int32}, ab_rd h 82 = some (.inr (10, fs)) → fs[69]? = some (.ref 119) → ab_rd h 119 = some (.inl (0, 256, .inl f)) → h.1 = 120 → h.2.1 = 21717 →
    ab_go 999 ab_M_X10_sheet 56 [(4, .int (nI i)), (0, .ref 82), (1, .int (nI K)), (2, .int t), (3, .int n)] [] h (fun r g' => r = some (.int 1) ∧ g'.1 = 120 ∧ g'.2.1 = 21717 ∧ g'.2.2 0 = h.2.2 0)
  | 0, i, hij, h, fs, f, h1, h2, h3, h4, h5 => by
    have hi : (nI i).toInt = (i : Int) := nI_toInt (by omega)
    refine go_s (pc' := 58) (lv' := [(4, .int (nI i)), (0, .ref 82), (1, .int (nI K)), (2, .int t), (3, .int n)]) (st' := [.int (nI i)]) rfl rfl rfl ?_
    refine go_bipush (v := 64) rfl (by decide) ?_
    refine go_ic (tgt := 82) rfl (by decide) (fun c => ?_) (fun c => ?_)
    · refine go_iconst (v := 1) rfl (by decide) ?_
      refine go_ri rfl rfl ?_
      exact ⟨rfl, h4, h5, rfl⟩
    · have c : ¬ (64 : Int) ≤ (nI i).toInt := c
      omega
  | j + 1, i, hij, h, fs, f, h1, h2, h3, h4, h5 => by
    have hi : (nI i).toInt = (i : Int) := nI_toInt (by omega)
    refine go_s (pc' := 58) (lv' := [(4, .int (nI i)), (0, .ref 82), (1, .int (nI K)), (2, .int t), (3, .int n)]) (st' := [.int (nI i)]) rfl rfl rfl ?_
    refine go_bipush (v := 64) rfl (by decide) ?_
    refine go_ic (tgt := 82) rfl (by decide) (fun c => ?_) (fun c => ?_)
    · have c : (64 : Int) ≤ (nI i).toInt := c
      omega
    · have hidx : (64 : Int32) * nI K + nI i = nI (64 * K + i) := by
        rcases (show K = 0 ∨ K = 1 ∨ K = 2 ∨ K = 3 by omega) with rfl | rfl | rfl | rfl
        · rw [← nI_add]; rfl
        · rw [← nI_add]; rfl
        · rw [← nI_add]; rfl
        · rw [← nI_add]; rfl
      refine go_s (pc' := 64) (lv' := [(4, .int (nI i)), (0, .ref 82), (1, .int (nI K)), (2, .int t), (3, .int n)]) (st' := [.ref 82]) rfl rfl rfl ?_
      refine go_get (v := .ref 119) rfl h1 h2 ?_
      refine go_bipush (v := 64) rfl (by decide) ?_
      refine go_s (pc' := 70) (lv' := [(4, .int (nI i)), (0, .ref 82), (1, .int (nI K)), (2, .int t), (3, .int n)]) (st' := [.int (nI K), .int 64, .ref 119]) rfl rfl rfl ?_
      refine go_b2 (v := 64 * nI K) rfl rfl (fun _ => rfl) rfl ?_
      refine go_s (pc' := 73) (lv' := [(4, .int (nI i)), (0, .ref 82), (1, .int (nI K)), (2, .int t), (3, .int n)]) (st' := [.int (nI i), .int (64 * nI K), .ref 119]) rfl rfl rfl ?_
      refine go_b2 (v := nI (64 * K + i)) rfl rfl (fun _ => rfl) hidx ?_
      refine go_iconst (v := 0) rfl (by decide) ?_
      refine go_ias rfl h3 (ab_in_n (by omega) (by decide)) (by decide) ?_
      generalize upd f (nI (64 * K + i)).toNatClampNeg 0 = f2
      refine go_s (pc' := 79) (lv' := [(4, .int (nI i + 1)), (0, .ref 82), (1, .int (nI K)), (2, .int t), (3, .int n)]) (st' := []) rfl rfl rfl ?_
      refine go_goto (tgt := 56) rfl (by decide) ?_
      rw [nI_1]
      obtain ⟨nn, rr, hF, hx, hr, z, w0, f0⟩ := m_sheet_loop K hK (t := t) (n := n) j (i + 1) (by omega) (h := ab_wr h 119 (.inl (0, 256, .inl f2))) (by rw [ab_rd_other (by decide)]; exact h1) h2 (ab_rd_self (by rw [h4]; decide)) h4 h5
      exact ⟨nn, rr, hF, hx, hr, z, w0, f0.trans (ab_wr_at (by decide))⟩
