/-! ===== pairs, counted in two ways ===== -/
def ctw (p : Nat → Bool) : Nat → Nat
  | 0 => 0
  | n + 1 => ctw p n + (if p n = true then 1 else 0)
theorem ctw_c {p q_w : Nat → Bool} : ∀ n, (∀ k_w, k_w < n → p k_w = q_w k_w) → ctw p n = ctw q_w n
  | 0, _ => rfl
  | n + 1, h_w => by
    unfold ctw
    rw [ctw_c n (fun k_w hk => h_w k_w (by omega)), h_w n (by omega)]
theorem ctw_le {p : Nat → Bool} : ∀ n, ctw p n ≤ n
  | 0 => Nat.le_refl _
  | n + 1 => by
    have := ctw_le (p := p) n
    unfold ctw
    split <;> omega
theorem ctw_0 {p : Nat → Bool} : ∀ n, (∀ k_w, k_w < n → p k_w = false) → ctw p n = 0
  | 0, _ => rfl
  | n + 1, h_w => by
    unfold ctw
    rw [ctw_0 n (fun k_w hk => h_w k_w (by omega)), h_w n (by omega)]
    rfl
/-- sums -/
def smw (f_w : Nat → Nat) : Nat → Nat
  | 0 => 0
  | n + 1 => smw f_w n + f_w n
theorem smw_c {f_w g_w : Nat → Nat} : ∀ n, (∀ k_w, k_w < n → f_w k_w = g_w k_w) → smw f_w n = smw g_w n
  | 0, _ => rfl
  | n + 1, h_w => by
    unfold smw
    rw [smw_c n (fun k_w hk => h_w k_w (by omega)), h_w n (by omega)]
theorem smw_a {f_w g_w : Nat → Nat} : ∀ n, smw (fun k_w => f_w k_w + g_w k_w) n = smw f_w n + smw g_w n
  | 0 => rfl
  | n + 1 => by
    unfold smw
    rw [smw_a n]
    omega
theorem smw_ct {p : Nat → Bool} : ∀ n, smw (fun k_w => if p k_w = true then 1 else 0) n = ctw p n
  | 0 => rfl
  | n + 1 => by
    unfold smw ctw
    rw [smw_ct n]
/-- pairs t_w < u_w < n: by the greater one, by the less one -/
theorem pairs_w {P : Nat → Nat → Bool} : ∀ n, smw (fun t_w => ctw (fun u_w => decide (t_w < u_w) && P t_w u_w) n) n = smw (fun u_w => ctw (fun t_w => P t_w u_w) u_w) n
  | 0 => rfl
  | n + 1 => by
    have e0_w : smw (fun t_w => ctw (fun u_w => decide (t_w < u_w) && P t_w u_w) (n + 1)) (n + 1) = smw (fun t_w => ctw (fun u_w => decide (t_w < u_w) && P t_w u_w) (n + 1)) n + ctw (fun u_w => decide (n < u_w) && P n u_w) (n + 1) := rfl
    have e1_w : ctw (fun u_w => decide (n < u_w) && P n u_w) (n + 1) = 0 := ctw_0 _ (fun k_w hk => by rw [decide_eq_false (by omega), Bool.false_and])
    have e2_w : smw (fun t_w => ctw (fun u_w => decide (t_w < u_w) && P t_w u_w) (n + 1)) n = smw (fun t_w => ctw (fun u_w => decide (t_w < u_w) && P t_w u_w) n + (if P t_w n = true then 1 else 0)) n := smw_c n (fun t_w ht => by
      show ctw (fun u_w => decide (t_w < u_w) && P t_w u_w) n + (if (decide (t_w < n) && P t_w n) = true then 1 else 0) = _
      rw [decide_eq_true ht, Bool.true_and])
    have e3_w : smw (fun u_w => ctw (fun t_w => P t_w u_w) u_w) (n + 1) = smw (fun u_w => ctw (fun t_w => P t_w u_w) u_w) n + ctw (fun t_w => P t_w n) n := rfl
    rw [e0_w, e1_w, e2_w, smw_a, smw_ct (p := fun t_w => P t_w n), pairs_w n, e3_w]
    omega
/-! chains: the latest number below s that has this level -/
def hdw (L_w : Nat → Nat) : Nat → Nat → Option Nat
  | 0, _ => none
  | s + 1, l => if L_w s = l then some s else hdw L_w s l
theorem hdw_s {L_w : Nat → Nat} {l : Nat} : ∀ s t_w, hdw L_w s l = some t_w → t_w < s ∧ L_w t_w = l ∧ ∀ p : Nat → Bool, (∀ k_w, p k_w = true → L_w k_w = l) → ctw p s = ctw p t_w + (if p t_w = true then 1 else 0)
  | 0, _, h_w => by cases h_w
  | s + 1, t_w, h_w => by
    unfold hdw at h_w
    by_cases e_w : L_w s = l
    · rw [if_pos e_w] at h_w
      cases h_w
      exact ⟨Nat.lt_succ_self _, e_w, fun p _ => rfl⟩
    · rw [if_neg e_w] at h_w
      obtain ⟨h1, h2, h3⟩ := hdw_s s t_w h_w
      refine ⟨by omega, h2, fun p hp => ?_⟩
      have : p s = false := eq_false_of_ne_true (fun q_w => e_w (hp s q_w))
      show ctw p s + (if p s = true then 1 else 0) = _
      rw [this, h3 p hp]
      rfl
theorem hdw_n {L_w : Nat → Nat} {l : Nat} : ∀ s, hdw L_w s l = none → ∀ k_w, k_w < s → L_w k_w ≠ l
  | 0, _, k_w, hk => absurd hk (Nat.not_lt_zero _)
  | s + 1, h_w, k_w, hk => by
    unfold hdw at h_w
    by_cases e_w : L_w s = l
    · rw [if_pos e_w] at h_w; cases h_w
    · rw [if_neg e_w] at h_w
      by_cases hz : k_w = s
      · rw [hz]; exact e_w
      · exact hdw_n s h_w k_w (by omega)
