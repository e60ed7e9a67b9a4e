/-! ===== the start: both constructors, a closed run ===== -/
def p1_a : ab_H := ab_nw (1, 0, fun _ => ab_bad) 17 (.inr (9, ab_df 9))
def p1_b : ab_H := ((ab_ex ab_G 1000 999 ab_M_X9_init 0 [(0, .ref 1)] [] p1_a).getD (none, p1_a)).2
def p1_c : ab_H := ab_nw p1_b 70 (.inr (10, ab_df 10))
def p1_H : ab_H := ((ab_ex ab_G 1000 999 ab_M_X10_init 0 [(0, .ref 82)] [] p1_c).getD (none, p1_c)).2
theorem p1_Rb : ab_obs (ab_ex ab_G 1000 999 ab_M_X9_init 0 [(0, .ref 1)] [] p1_a) = some (none, 82, 14142) := by decide +kernel
theorem p1_RH : ab_obs (ab_ex ab_G 1000 999 ab_M_X10_init 0 [(0, .ref 82)] [] p1_c) = some (none, 120, 21717) := by decide +kernel
def si_fv (f : sx_F) (w : Value) : Bool := match f.1, w with
  | 0, .int x => decide (f.2.1 ≤ x.toInt) && decide (x.toInt ≤ f.2.2.1)
  | 1, .long _ => true
  | 2, .ref a => f.2.2.2.contains a
  | 3, _ => true
  | _, _ => false
theorem si_fv_ok {f : sx_F} {w : Value} (hk : si_fv f w = true) : sx_fv f w := by
  unfold si_fv at hk
  unfold sx_fv
  split at hk
  · rename_i x h0
    rw [Bool.and_eq_true, decide_eq_true_eq, decide_eq_true_eq] at hk
    rw [h0]
    exact ⟨x, rfl, hk.1, hk.2⟩
  · rename_i x h0
    rw [h0]
    exact ⟨x, rfl⟩
  · rename_i a h0
    rw [h0]
    exact ⟨a, rfl, List.contains_iff_mem.mp hk⟩
  · rename_i h0
    rw [h0]
    trivial
  · cases hk
def si_fvs : List sx_F → List Value → Bool
  | [], [] => true
  | f :: r, w :: q => si_fv f w && si_fvs r q
  | _, _ => false
theorem si_fvs_ok : ∀ {fs : List sx_F} {ws : List Value}, si_fvs fs ws = true → fs.length = ws.length ∧ ∀ (k : Nat) (f : sx_F) (w : Value), fs[k]? = some f → ws[k]? = some w → sx_fv f w
  | [], [], _ => ⟨rfl, fun k f w h => by cases h⟩
  | f :: r, w :: q, h => by
    unfold si_fvs at h
    rw [Bool.and_eq_true] at h
    obtain ⟨h1, h2⟩ := si_fvs_ok h.2
    refine ⟨by rw [List.length_cons, List.length_cons, h1], fun k f' w' hf hw => ?_⟩
    cases k with
    | zero => cases hf; cases hw; exact si_fv_ok h.1
    | succ k => exact h2 k f' w' hf hw
  | [], _ :: _, h => by cases h
  | _ :: _, [], h => by cases h
def si_all (p : Nat → Bool) : Nat → Bool
  | 0 => true
  | n + 1 => p n && si_all p n
theorem si_all_ok {p : Nat → Bool} : ∀ {n : Nat}, si_all p n = true → ∀ j, j < n → p j = true
  | 0, _, j, hj => by omega
  | n + 1, h, j, hj => by
    unfold si_all at h
    rw [Bool.and_eq_true] at h
    by_cases e : j = n
    · subst e; exact h.1
    · exact si_all_ok h.2 j (by omega)
def si_c (c : sx_C) (e : ab_E) : Bool := match c, e with
  | .inl (t, n, ps, _), .inl (t', n', .inl f) => decide (t = t' ∧ n = n' ∧ (t = 0 ∨ t = 1 ∨ t = 3)) && si_all (fun j => ps.any (fun p => decide (p.1 ≤ (f j).toInt) && decide ((f j).toInt ≤ p.2))) n
  | .inl (t, n, _, _), .inl (t', n', .inr (.inl _)) => decide (t = t' ∧ n = n' ∧ t = 2)
  | .inl (t, n, _, cs), .inl (t', n', .inr (.inr f)) => decide (t = t' ∧ n = n' ∧ t = 4) && si_all (fun j => match f j, cs[j]? with
    | some a, some b => a == b
    | _, _ => false) n
  | .inr (ci, fs), .inr (cj, ws) => decide (ci = cj) && si_fvs fs ws
  | _, _ => false
theorem si_c_ok {c : sx_C} {e : ab_E} (hk : si_c c e = true) : sx_c c e := by
  unfold si_c at hk
  unfold sx_c
  split at hk
  · rw [Bool.and_eq_true, decide_eq_true_eq] at hk
    refine ⟨hk.1.1, hk.1.2.1, hk.1.2.2, fun j hj => ?_⟩
    obtain ⟨p, h1, h2⟩ := List.any_eq_true.mp (si_all_ok hk.2 j hj)
    rw [Bool.and_eq_true, decide_eq_true_eq, decide_eq_true_eq] at h2
    exact ⟨p, h1, h2⟩
  · exact of_decide_eq_true hk
  · rw [Bool.and_eq_true, decide_eq_true_eq] at hk
    refine ⟨hk.1.1, hk.1.2.1, hk.1.2.2, fun j hj => ?_⟩
    have h1 := si_all_ok hk.2 j hj
    split at h1
    · rename_i a b ha hb
      have e : a = b := eq_of_beq h1
      subst e
      exact ⟨a, ha, hb⟩
    · cases h1
  · rw [Bool.and_eq_true, decide_eq_true_eq] at hk
    exact ⟨hk.1, si_fvs_ok hk.2⟩
  · cases hk
def si_ck (h : ab_H) : List sx_C → Nat → Bool
  | [], _ => true
  | c :: r, a => si_c c (h.2.2 a) && si_ck h r (a + 1)
theorem si_ck_ok {h : ab_H} : ∀ {cs : List sx_C} {a : Nat}, si_ck h cs a = true → ∀ (k : Nat) (c : sx_C), cs[k]? = some c → sx_c c (h.2.2 (a + k))
  | [], a, _, k, c, hc => by cases hc
  | c0 :: r, a, hk, k, c, hc => by
    unfold si_ck at hk
    rw [Bool.and_eq_true] at hk
    cases k with
    | zero => cases hc; exact si_c_ok hk.1
    | succ k =>
      have := si_ck_ok hk.2 k c hc
      rw [show a + (k + 1) = a + 1 + k by omega]
      exact this
theorem si_ok : si_ck p1_H sx_SP 1 = true := by decide +kernel
theorem si_h {g : ab_H} {L : Nat} {xs : Nat → Int32} (h1 : g.1 = 120) (h2 : g.2.1 = 21717) (h0 : g.2.2 0 = .inl (0, L, .inl xs)) (hc : ∀ a, 0 < a → a < 120 → g.2.2 a = p1_H.2.2 a) : sx_h sx_SP 21717 L xs g := by
  refine ⟨h1, h2, h0, fun k c hk => ?_⟩
  have hl : k < 119 := by
    have := (List.getElem?_eq_some_iff.mp hk).1
    exact this
  rw [hc (k + 1) (by omega) (by omega), Nat.add_comm k 1]
  exact si_ck_ok si_ok k c hk
