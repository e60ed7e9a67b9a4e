/-! ===== covers by cubes ===== -/
/-- what a_w list of cubes weighs -/
def wsw (wt : Nat → Nat) : List Nat → Nat
  | [] => 0
  | p_w :: L => wt p_w + wsw wt L
theorem wsw.ap {wt : Nat → Nat} {B : List Nat} : ∀ {A : List Nat}, wsw wt (A ++ B) = wsw wt A + wsw wt B
  | [] => (Nat.zero_add _).symm
  | p_w :: A => by
    have := wsw.ap (wt := wt) (B := B) (A := A)
    show wt p_w + wsw wt (A ++ B) = wt p_w + wsw wt A + wsw wt B
    omega
theorem wsw.pm {wt : Nat → Nat} {A B : List Nat} (h_w : A.Perm B) : wsw wt A = wsw wt B := by
  induction h_w with
  | nil => rfl
  | cons x _ ih => show wt x + _ = wt x + _; rw [ih]
  | swap x y_w l => show wt y_w + (wt x + _) = wt x + (wt y_w + _); omega
  | trans _ _ h1 h2 => exact h1.trans h2
/-- a_w cover of what is open -/
def CVw (n_w : Nat) (ca : Nat → Nat → Bool) (O_w : Nat → Bool) (L : List Nat) : Prop := (∀ p_w, p_w ∈ L → p_w < n_w) ∧ ∀ l, O_w l = true → ∃ p_w, p_w ∈ L ∧ ca p_w l = true
theorem CVw.mn {n_w : Nat} {ca : Nat → Nat → Bool} {O_w O' : Nat → Bool} {L : List Nat} (h_w : CVw n_w ca O_w L) (s_w : ∀ l, O' l = true → O_w l = true) : CVw n_w ca O' L := ⟨h_w.1, fun l hl => h_w.2 l (s_w l hl)⟩
theorem CVw.pm {n_w : Nat} {ca : Nat → Nat → Bool} {O_w : Nat → Bool} {A B : List Nat} (h_w : CVw n_w ca O_w A) (q : A.Perm B) : CVw n_w ca O_w B := ⟨fun p_w hp => h_w.1 p_w (q.mem_iff.mpr hp), fun l hl => (h_w.2 l hl).imp (fun p_w w_w => ⟨q.mem_iff.mp w_w.1, w_w.2⟩)⟩
/-- what a_w cube leaves open -/
theorem CVw.cn {n_w p_w : Nat} {ca : Nat → Nat → Bool} {O_w O' : Nat → Bool} {L : List Nat} (hp : p_w < n_w) (h_w : CVw n_w ca O' L) (s_w : ∀ l, O_w l = true → O' l = true ∨ ca p_w l = true) : CVw n_w ca O_w (p_w :: L) := by
  refine ⟨fun q hq => ?_, fun l hl => ?_⟩
  · rcases List.mem_cons.mp hq with z_w | z_w
    · rw [z_w]; exact hp
    · exact h_w.1 q z_w
  · rcases s_w l hl with z_w | z_w
    · obtain ⟨q, q1, q2_w⟩ := h_w.2 l z_w
      exact ⟨q, List.mem_cons_of_mem _ q1, q2_w⟩
    · exact ⟨p_w, List.mem_cons_self, z_w⟩
theorem CVw.ts {n_w p_w : Nat} {ca : Nat → Nat → Bool} {O_w O' : Nat → Bool} {L : List Nat} (h_w : CVw n_w ca O_w (p_w :: L)) (s_w : ∀ l, O' l = true → O_w l = true ∧ ca p_w l = false) : CVw n_w ca O' L := by
  refine ⟨fun q hq => h_w.1 q (List.mem_cons_of_mem _ hq), fun l hl => ?_⟩
  obtain ⟨s1_w, s2_w⟩ := s_w l hl
  obtain ⟨q, q1, q2_w⟩ := h_w.2 l s1_w
  rcases List.mem_cons.mp q1 with z_w | z_w
  · rw [z_w, s2_w] at q2_w; cases q2_w
  · exact ⟨q, z_w, q2_w⟩
/-- how many of the first numbers are so -/
def cnw (f : Nat → Bool) : Nat → Nat
  | 0 => 0
  | k_w + 1 => cnw f k_w + if f k_w = true then 1 else 0
theorem cnw.le {f : Nat → Bool} : ∀ k_w, cnw f k_w ≤ k_w
  | 0 => Nat.le_refl _
  | k_w + 1 => by
    have := cnw.le (f := f) k_w
    show cnw f k_w + (if f k_w = true then 1 else 0) ≤ k_w + 1
    split <;> omega
theorem cnw.mn {f g : Nat → Bool} (h_w : ∀ l, f l = true → g l = true) : ∀ k_w, cnw f k_w ≤ cnw g k_w ∧ ((∃ l, l < k_w ∧ f l = false ∧ g l = true) → cnw f k_w < cnw g k_w)
  | 0 => ⟨Nat.le_refl _, fun ⟨l, h1, _⟩ => absurd h1 (Nat.not_lt_zero l)⟩
  | k_w + 1 => by
    obtain ⟨a_w, b_w⟩ := cnw.mn h_w k_w
    show cnw f k_w + (if f k_w = true then 1 else 0) ≤ cnw g k_w + (if g k_w = true then 1 else 0) ∧ (_ → cnw f k_w + (if f k_w = true then 1 else 0) < cnw g k_w + (if g k_w = true then 1 else 0))
    have c_w := h_w k_w
    refine ⟨?_, fun ⟨l, l1, l2, l3⟩ => ?_⟩
    · by_cases z_w : f k_w = true
      · rw [if_pos z_w, if_pos (c_w z_w)]; omega
      · rw [if_neg z_w]; omega
    · by_cases e : l = k_w
      · rw [e] at l2 l3
        rw [l2, if_neg (by decide), if_pos l3]; omega
      · have := b_w ⟨l, by omega, l2, l3⟩
        by_cases z_w : f k_w = true
        · rw [if_pos z_w, if_pos (c_w z_w)]; omega
        · rw [if_neg z_w]; omega
/-- a_w cube is outdone by another -/
def OUw (ca : Nat → Nat → Bool) (wt : Nat → Nat) (O_w : Nat → Bool) (l p_w q : Nat) : Prop := q ≠ p_w ∧ ca q l = true ∧ (∀ j_w, O_w j_w = true → ca p_w j_w = true → ca q j_w = true) ∧ wt q ≤ wt p_w ∧ (¬ (wt q = wt p_w ∧ ∀ j_w, O_w j_w = true → ca q j_w = true → ca p_w j_w = true) ∨ q < p_w)
/-- one that is not outdone stands for each -/
theorem OUw.top {n_w l : Nat} {ca : Nat → Nat → Bool} {wt : Nat → Nat} {O_w : Nat → Bool} (b_w : ∀ j_w, O_w j_w = true → j_w < 64) {p_w : Nat} (hp : p_w < n_w) (hl : ca p_w l = true) : ∃ q, q < n_w ∧ ca q l = true ∧ (∀ j_w, O_w j_w = true → ca p_w j_w = true → ca q j_w = true) ∧ wt q ≤ wt p_w ∧ ∀ r_w, r_w < n_w → ¬ OUw ca wt O_w l q r_w := by
  have key_w : ∀ k_w q, wt q * (65 * (n_w + 1)) + (64 - cnw (fun j_w => O_w j_w && ca q j_w) 64) * (n_w + 1) + q < k_w → q < n_w → ca q l = true → (∀ j_w, O_w j_w = true → ca p_w j_w = true → ca q j_w = true) → wt q ≤ wt p_w → ∃ q, q < n_w ∧ ca q l = true ∧ (∀ j_w, O_w j_w = true → ca p_w j_w = true → ca q j_w = true) ∧ wt q ≤ wt p_w ∧ ∀ r_w, r_w < n_w → ¬ OUw ca wt O_w l q r_w := fun k_w => by
    induction k_w with
    | zero => intro q h_w; omega
    | succ k_w ih =>
      intro q h_w h1 h2 h3 h4
      by_cases z_w : ∀ r_w, r_w < n_w → ¬ OUw ca wt O_w l q r_w
      · exact ⟨q, h1, h2, h3, h4, z_w⟩
      · obtain ⟨r_w, z_w⟩ := Classical.not_forall.mp z_w
        obtain ⟨r1_w, r2⟩ := Classical.not_imp.mp z_w
        obtain ⟨o1, o2, o3_w, o4_w, o5⟩ := Classical.not_not.mp r2
        refine ih r_w ?_ r1_w o2 (fun j_w j1 j2_w => o3_w j_w j1 (h3 j_w j1 j2_w)) (by omega)
        obtain ⟨c1_w, c2_w⟩ := cnw.mn (f := fun j_w => O_w j_w && ca q j_w) (g := fun j_w => O_w j_w && ca r_w j_w) (fun j_w hj => by
          rw [Bool.and_eq_true] at hj ⊢
          exact ⟨hj.1, o3_w j_w hj.1 hj.2⟩) 64
        have d1_w := cnw.le (f := fun j_w => O_w j_w && ca q j_w) 64
        have d2_w := cnw.le (f := fun j_w => O_w j_w && ca r_w j_w) 64
        generalize cnw (fun j_w => O_w j_w && ca q j_w) 64 = A at *
        generalize cnw (fun j_w => O_w j_w && ca r_w j_w) 64 = B at *
        have m1_w : (64 - B) * (n_w + 1) ≤ (64 - A) * (n_w + 1) := Nat.mul_le_mul_right _ (by omega)
        have m3_w : (64 - B) * (n_w + 1) ≤ 64 * (n_w + 1) := Nat.mul_le_mul_right _ (by omega)
        by_cases w_w : wt r_w = wt q
        · rw [w_w]
          by_cases s_w : ∀ j_w, O_w j_w = true → ca r_w j_w = true → ca q j_w = true
          · have : r_w < q := o5.resolve_left (fun y_w => y_w ⟨w_w, s_w⟩)
            omega
          · obtain ⟨j_w, s_w⟩ := Classical.not_forall.mp s_w
            obtain ⟨s1_w, s_w⟩ := Classical.not_imp.mp s_w
            obtain ⟨s2_w, s3_w⟩ := Classical.not_imp.mp s_w
            have := c2_w ⟨j_w, b_w j_w s1_w, by show (O_w j_w && ca q j_w) = false; rw [s1_w, Bool.true_and]; exact eq_false_of_ne_true s3_w, by show (O_w j_w && ca r_w j_w) = true; rw [s1_w, s2_w]; rfl⟩
            have m2_w : (64 - B + 1) * (n_w + 1) ≤ (64 - A) * (n_w + 1) := Nat.mul_le_mul_right _ (by omega)
            rw [Nat.add_mul] at m2_w
            omega
        · have m2_w : (wt r_w + 1) * (65 * (n_w + 1)) ≤ wt q * (65 * (n_w + 1)) := Nat.mul_le_mul_right _ (by omega)
          rw [Nat.add_mul] at m2_w
          omega
  exact key_w _ p_w (Nat.lt_succ_self _) hp hl (fun _ _ h_w => h_w) (Nat.le_refl _)
/-- levels of which no two share a_w cube: what is left, what they ask at least -/
def PKw (n_w : Nat) (ca : Nat → Nat → Bool) (wt : Nat → Nat) (O_w R_w : Nat → Bool) (s_w : Nat) : Prop := (∀ l, R_w l = true → O_w l = true) ∧ ∀ L, CVw n_w ca O_w L → ∃ A B, L.Perm (A ++ B) ∧ s_w ≤ wsw wt A ∧ ∀ p_w, p_w ∈ A → ∀ l, R_w l = true → ca p_w l = false
theorem PKw.st {n_w : Nat} {ca : Nat → Nat → Bool} {wt : Nat → Nat} {O_w : Nat → Bool} : PKw n_w ca wt O_w O_w 0 := ⟨fun _ h_w => h_w, fun L _ => ⟨[], L, List.Perm.refl _, Nat.le_refl _, fun p_w hp => by cases hp⟩⟩
theorem PKw.sp {n_w l s_w u_w : Nat} {ca : Nat → Nat → Bool} {wt : Nat → Nat} {O_w R_w R' : Nat → Bool} (h_w : PKw n_w ca wt O_w R_w s_w) (hl : R_w l = true) (hu : ∀ p_w, p_w < n_w → ca p_w l = true → u_w ≤ wt p_w) (hR : ∀ j_w, R' j_w = true → R_w j_w = true ∧ ∀ p_w, p_w < n_w → ca p_w l = true → ca p_w j_w = false) : PKw n_w ca wt O_w R' (s_w + u_w) := by
  refine ⟨fun j_w hj => h_w.1 j_w (hR j_w hj).1, fun L hL => ?_⟩
  obtain ⟨A, B, q1, q2_w, q3_w⟩ := h_w.2 L hL
  obtain ⟨p_w, p1_w, p2_w⟩ := hL.2 l (h_w.1 l hl)
  have pn := hL.1 p_w p1_w
  have pB : p_w ∈ B := by
    rcases List.mem_append.mp (q1.mem_iff.mp p1_w) with z_w | z_w
    · have := q3_w p_w z_w l hl
      rw [p2_w] at this; cases this
    · exact z_w
  have e := List.perm_cons_erase pB
  refine ⟨p_w :: A, B.erase p_w, q1.trans ?_, ?_, fun q hq j_w hj => ?_⟩
  · exact (List.Perm.append_left A e).trans (List.perm_middle)
  · have := hu p_w pn p2_w
    show s_w + u_w ≤ wt p_w + wsw wt A
    omega
  · rcases List.mem_cons.mp hq with z_w | z_w
    · rw [z_w]; exact (hR j_w hj).2 p_w pn p2_w
    · exact q3_w q z_w j_w (hR j_w hj).1
theorem PKw.le {n_w s_w : Nat} {ca : Nat → Nat → Bool} {wt : Nat → Nat} {O_w R_w : Nat → Bool} (h_w : PKw n_w ca wt O_w R_w s_w) {L : List Nat} (hL : CVw n_w ca O_w L) : s_w ≤ wsw wt L := by
  obtain ⟨A, B, q1, q2_w, -⟩ := h_w.2 L hL
  rw [wsw.pm q1, wsw.ap]
  omega
/-- the least weight of covers by at most k_w cubes -/
def OPw (n_w : Nat) (ca : Nat → Nat → Bool) (wt : Nat → Nat) (O_w : Nat → Bool) (k_w v_w : Nat) : Prop := (∃ L, CVw n_w ca O_w L ∧ L.length ≤ k_w ∧ wsw wt L = v_w) ∧ ∀ L, CVw n_w ca O_w L → L.length ≤ k_w → v_w ≤ wsw wt L
/-- what the search for the least weight answers -/
def LWw (n_w : Nat) (ca : Nat → Nat → Bool) (wt : Nat → Nat) (O_w : Nat → Bool) (k_w : Nat) (lim r_w : Int) : Prop := (r_w ≤ lim → ∃ v_w : Nat, r_w = v_w ∧ OPw n_w ca wt O_w k_w v_w) ∧ (lim < r_w → ∀ L, CVw n_w ca O_w L → L.length ≤ k_w → lim < wsw wt L)
/-- ahead of cube p_w: the best_w so far -/
def LIw (n_w : Nat) (ca : Nat → Nat → Bool) (wt : Nat → Nat) (O_w : Nat → Bool) (k_w l : Nat) (lim : Int) (p_w : Nat) (best_w : Int) : Prop := (best_w = lim + 1 ∨ (best_w ≤ lim ∧ ∃ L, CVw n_w ca O_w L ∧ L.length ≤ k_w + 1 ∧ (wsw wt L : Int) = best_w)) ∧ ∀ q, q < p_w → ca q l = true → (∀ r_w, r_w < n_w → ¬ OUw ca wt O_w l q r_w) → ∀ L O', (∀ j_w, O' j_w = (O_w j_w && !ca q j_w)) → CVw n_w ca O' L → L.length ≤ k_w → best_w ≤ wt q + wsw wt L
theorem LIw.st {n_w k_w l : Nat} {ca : Nat → Nat → Bool} {wt : Nat → Nat} {O_w : Nat → Bool} {lim : Int} : LIw n_w ca wt O_w k_w l lim 0 (lim + 1) := ⟨Or.inl rfl, fun q hq => absurd hq (Nat.not_lt_zero q)⟩
theorem LIw.sk {n_w k_w l p_w : Nat} {ca : Nat → Nat → Bool} {wt : Nat → Nat} {O_w : Nat → Bool} {lim best_w : Int} (h_w : LIw n_w ca wt O_w k_w l lim p_w best_w) (hp : ca p_w l = true → ∃ r_w, r_w < n_w ∧ OUw ca wt O_w l p_w r_w) : LIw n_w ca wt O_w k_w l lim (p_w + 1) best_w := by
  refine ⟨h_w.1, fun q hq c_w z_w => ?_⟩
  by_cases e : q = p_w
  · rw [e] at c_w z_w
    obtain ⟨r_w, r1_w, r2⟩ := hp c_w
    exact absurd r2 (z_w r_w r1_w)
  · exact h_w.2 q (by omega) c_w z_w
theorem LIw.sp {n_w k_w l p_w : Nat} {ca : Nat → Nat → Bool} {wt : Nat → Nat} {O_w O' : Nat → Bool} {lim best_w r_w best' : Int} (h_w : LIw n_w ca wt O_w k_w l lim p_w best_w) (hp : p_w < n_w) (hO : ∀ j_w, O' j_w = (O_w j_w && !ca p_w j_w)) (hr : LWw n_w ca wt O' k_w (best_w - 1 - wt p_w) r_w) (hb_w : best' = min best_w (r_w + wt p_w)) : LIw n_w ca wt O_w k_w l lim (p_w + 1) best' := by
  obtain ⟨h1, h2⟩ := h_w
  obtain ⟨r1_w, r2⟩ := hr
  have bl : best' ≤ best_w := by clear h1 r1_w; omega
  by_cases c_w : r_w ≤ best_w - 1 - wt p_w
  · obtain ⟨v_w, v1_w, ⟨L, L1, L2_w, L3_w⟩, v2⟩ := r1_w c_w
    have e : best' = r_w + wt p_w := by clear h1 r1_w; omega
    refine ⟨Or.inr ⟨?_, p_w :: L, L1.cn hp (fun j_w hj => ?_), by show L.length + 1 ≤ k_w + 1; omega, ?_⟩, fun q hq c_w z_w K_w O2_w hO2 hK_w lK => ?_⟩
    · have z_w : best_w ≤ lim + 1 := by
        rcases h1 with z_w | ⟨z_w, -⟩
        · rw [z_w]; exact Int.le_refl _
        · clear r1_w; omega
      clear h1 r1_w
      omega
    · rw [hO, hj, Bool.true_and]
      cases ca p_w j_w
      · exact Or.inl rfl
      · exact Or.inr rfl
    · show ((wt p_w + wsw wt L : Nat) : Int) = best'
      omega
    · by_cases y_w : q = p_w
      · rw [y_w] at hO2 ⊢
        have := v2 K_w (hK_w.mn (fun j_w hj => by rw [hO2, ← hO]; exact hj)) lK
        omega
      · have := h2 q (by omega) c_w z_w K_w O2_w hO2 hK_w lK
        omega
  · have e : best' = best_w := by clear h1 r1_w; omega
    rw [e]
    refine ⟨h1, fun q hq c' z_w K_w O2_w hO2 hK_w lK => ?_⟩
    by_cases y_w : q = p_w
    · rw [y_w] at hO2 ⊢
      have := r2 (by omega) K_w (hK_w.mn (fun j_w hj => by rw [hO2, ← hO]; exact hj)) lK
      omega
    · exact h2 q (by omega) c' z_w K_w O2_w hO2 hK_w lK
theorem LIw.fn {n_w k_w l : Nat} {ca : Nat → Nat → Bool} {wt : Nat → Nat} {O_w : Nat → Bool} {lim best_w : Int} (b_w : ∀ j_w, O_w j_w = true → j_w < 64) (hl : O_w l = true) (h_w : LIw n_w ca wt O_w k_w l lim n_w best_w) : LWw n_w ca wt O_w (k_w + 1) lim best_w := by
  obtain ⟨h1, h2⟩ := h_w
  have low_w : ∀ L, CVw n_w ca O_w L → L.length ≤ k_w + 1 → best_w ≤ wsw wt L := fun L hL lL => by
    obtain ⟨p_w, p1_w, p2_w⟩ := hL.2 l hl
    have e := List.perm_cons_erase p1_w
    obtain ⟨q, q1, q2_w, q3_w, q4_w, q5_w⟩ := OUw.top (wt := wt) b_w (hL.1 p_w p1_w) p2_w
    have le_w := e.length_eq
    have le_w : L.length = (L.erase p_w).length + 1 := le_w
    have w_w : wsw wt L = wt p_w + wsw wt (L.erase p_w) := wsw.pm e
    have := h2 q q1 q2_w q5_w (L.erase p_w) (fun j_w => O_w j_w && !ca q j_w) (fun _ => rfl) ((hL.pm e).ts (fun j_w hj => by
      rw [Bool.and_eq_true] at hj
      refine ⟨hj.1, eq_false_of_ne_true (fun y_w => ?_)⟩
      have z_w := hj.2
      rw [q3_w j_w hj.1 y_w] at z_w
      cases z_w)) (by omega)
    omega
  refine ⟨fun r1_w => ?_, fun r1_w L hL lL => ?_⟩
  · rcases h1 with z_w | ⟨z_w, L, L1, L2_w, L3_w⟩
    · omega
    · exact ⟨wsw wt L, L3_w.symm, ⟨L, L1, L2_w, rfl⟩, fun K_w hK_w lK => by have := low_w K_w hK_w lK; omega⟩
  · have := low_w L hL lL
    omega
