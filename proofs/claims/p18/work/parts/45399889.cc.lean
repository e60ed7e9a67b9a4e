/-! ===== cost: few cubes do ===== -/
/-- the prime cubes, numbered in their order -/
def PRx (on off : Int64) (W n_w : Nat) (ca : Nat → Nat → Bool) (wt : Nat → Nat) : Prop := n_w = PNw on off W (3 ^ W) ∧ ∀ c, c < 3 ^ W → lc_prime on off W c → wt (PNw on off W c) = 256 + LTw W c ∧ ∀ j_w, ca (PNw on off W c) j_w = true ↔ j_w < 2 ^ W ∧ lc_C W c j_w
section PRx
variable {on off : Int64} {W n_w : Nat} {ca : Nat → Nat → Bool} {wt : Nat → Nat}
theorem grw_w {c : Nat} (hW : W ≤ 6) (hc_w : c < 3 ^ W) (no_w : ¬ lc_hit off W c) (yes_w : lc_hit on W c) : ∃ c', c' < 3 ^ W ∧ lc_prime on off W c' ∧ ∀ l, lc_C W c l → lc_C W c' l := by
  have h3 := lc_p3 hW
  have grow_w : ∀ (r_w c : Nat), c + r_w = 3 ^ W → c < 3 ^ W → ¬ lc_hit off W c → lc_hit on W c → ∃ c', c' < 3 ^ W ∧ lc_prime on off W c' ∧ ∀ l, lc_C W c l → lc_C W c' l := by
    intro r_w
    induction r_w using Nat.strongRecOn with
    | _ r_w ih =>
      intro c hr hc_w hno hy
      by_cases hp : ∀ i_w, i_w < W → dg c i_w ≠ 2 → lc_hit off W (lc_up c i_w)
      · exact ⟨c, hc_w, ⟨hno, hy, hp⟩, fun _ h_w => h_w⟩
      · obtain ⟨i_w, hi_w⟩ := Classical.not_forall.mp hp
        obtain ⟨hi_w, hx⟩ := Classical.not_imp.mp hi_w
        obtain ⟨hd_w, hx⟩ := Classical.not_imp.mp hx
        have u1_w := lc_upb hW hc_w hi_w
        have u2_w := lc_upgt hd_w
        have sup_w : ∀ l, lc_C W c l → lc_C W (lc_up c i_w) l := fun l h_w j_w hj => by
          rw [lc_dgup (by omega) (by omega) (by omega)]
          split
          · exact Or.inl rfl
          · exact h_w j_w hj
        obtain ⟨l, l1, l2, l3⟩ := hy
        obtain ⟨c', a1_w, a2, a3⟩ := ih (3 ^ W - lc_up c i_w) (by omega) (lc_up c i_w) (by omega) u1_w hx ⟨l, l1, l2, sup_w l l3⟩
        exact ⟨c', a1_w, a2, fun l h_w => a3 l (sup_w l h_w)⟩
  exact grow_w (3 ^ W - c) c (by omega) hc_w no_w yes_w
/-- two_w levels that touch share a_w cube -/
theorem pai_w (hW : W ≤ 6) (W1_w : 1 ≤ W) (dj : on &&& off = 0) (ob_w : ∀ l, mk_bt on l = true → l < 2 ^ W) (P_w : PRx on off W n_w ca wt) (j_w : Nat) : (mk_bt on (2 * j_w) = false ∧ mk_bt on (2 * j_w + 1) = false) ∨ ∃ p_w, p_w < n_w ∧ ∀ l, l / 2 = j_w → mk_bt on l = true → ca p_w l = true := by
  have h3 := lc_p3 hW
  have h2 := lc_p2 hW
  obtain ⟨p1_w, p2_w⟩ := P_w
  have dis : ∀ l, mk_bt on l = true → mk_bt off l = false := fun l h_w => by
    have l64_w : l < 64 := by have := ob_w l h_w; omega
    have := mk_eq0.mp dj l l64_w
    rw [mk_and, h_w, Bool.true_and] at this
    exact this
  have pr : ∀ c, c < 3 ^ W → lc_prime on off W c → ∃ p_w, p_w < n_w ∧ ∀ j_w, ca p_w j_w = true ↔ j_w < 2 ^ W ∧ lc_C W c j_w := fun c hc_w hp => ⟨PNw on off W c, by rw [p1_w]; exact PNw.lt hc_w hp, (p2_w c hc_w hp).2⟩
  have lone_w : ∀ l, mk_bt on l = true → ∃ p_w, p_w < n_w ∧ ca p_w l = true := fun l h_w => by
    obtain ⟨c, c1_w, c2_w, c3_w⟩ := lc_cover hW (ob_w l h_w) h_w (dis l h_w)
    obtain ⟨p_w, q1_w, q2_w⟩ := pr c c1_w c3_w
    exact ⟨p_w, q1_w, (q2_w l).mpr ⟨ob_w l h_w, c2_w⟩⟩
  have two_w : ∀ l, l / 2 = j_w → l = 2 * j_w ∨ l = 2 * j_w + 1 := fun l h_w => by omega
  by_cases a_w : mk_bt on (2 * j_w) = true
  · by_cases b_w : mk_bt on (2 * j_w + 1) = true
    · right
      have la := ob_w _ a_w
      have lb := ob_w _ b_w
      have mb := lc_mtb hW la
      have e0_w : lc_bt (2 * j_w) 0 = 0 := by show 2 * j_w / 2 ^ 0 % 2 = 0; rw [Nat.pow_zero, Nat.div_one]; omega
      obtain ⟨-, t2_w, t3_w, -⟩ := btp_w (show 2 * j_w < 64 by omega) (show 0 < 6 by decide) e0_w
      rw [show 2 * j_w + 2 ^ 0 = 2 * j_w + 1 from rfl] at t2_w t3_w
      have md : ∀ i_w, i_w < 6 → dg (lc_mt (2 * j_w)) i_w = lc_bt (2 * j_w) i_w := fun i_w hi_w => lc_mtd (by omega) hi_w
      have ub_w := lc_upb (c := lc_mt (2 * j_w)) hW mb (show 0 < W by omega)
      have du : ∀ i_w, i_w < 6 → dg (lc_up (lc_mt (2 * j_w)) 0) i_w = if i_w = 0 then 2 else lc_bt (2 * j_w) i_w := fun i_w hi_w => by
        rw [lc_dgup (by omega) (by decide) hi_w]
        by_cases z_w : i_w = 0
        · rw [if_pos z_w, if_pos z_w]
        · rw [if_neg z_w, if_neg z_w]; exact md i_w hi_w
      have ca0 : lc_C W (lc_up (lc_mt (2 * j_w)) 0) (2 * j_w) := fun i_w hi_w => by
        rw [du i_w (by omega)]
        by_cases z_w : i_w = 0
        · rw [if_pos z_w]; exact Or.inl rfl
        · rw [if_neg z_w]; exact Or.inr rfl
      have ca1 : lc_C W (lc_up (lc_mt (2 * j_w)) 0) (2 * j_w + 1) := fun i_w hi_w => by
        rw [du i_w (by omega)]
        by_cases z_w : i_w = 0
        · rw [if_pos z_w]; exact Or.inl rfl
        · rw [if_neg z_w, t3_w i_w (by omega) z_w]; exact Or.inr rfl
      have no_w : ¬ lc_hit off W (lc_up (lc_mt (2 * j_w)) 0) := fun ⟨l, l1, l2, l3⟩ => by
        have ag : ∀ i_w, i_w < W → i_w ≠ 0 → lc_bt l i_w = lc_bt (2 * j_w) i_w := fun i_w hi_w z_w => by
          have := l3 i_w hi_w
          rw [du i_w (by omega), if_neg z_w] at this
          have b2 := bt2_w (2 * j_w) i_w
          omega
        have key_w : ∀ l', mk_bt on l' = true → l' = l → False := fun l' h_w e_w => by
          have := dis l' h_w
          rw [e_w, l2] at this
          cases this
        rcases bt2_w l 0 with z_w | z_w
        · refine key_w _ a_w (lc_eq la l1 (fun i_w hi_w => ?_))
          by_cases y_w : i_w = 0
          · rw [y_w, e0_w, z_w]
          · exact (ag i_w hi_w y_w).symm
        · refine key_w _ b_w (lc_eq lb l1 (fun i_w hi_w => ?_))
          by_cases y_w : i_w = 0
          · rw [y_w, t2_w, z_w]
          · rw [t3_w i_w (by omega) y_w]; exact (ag i_w hi_w y_w).symm
      obtain ⟨c, c1_w, c2_w, c3_w⟩ := grw_w hW ub_w no_w ⟨_, la, a_w, ca0⟩
      obtain ⟨p_w, q1_w, q2_w⟩ := pr c c1_w c2_w
      refine ⟨p_w, q1_w, fun l hl ho => ?_⟩
      rcases two_w l hl with z_w | z_w
      · rw [z_w]; exact (q2_w _).mpr ⟨la, c3_w _ ca0⟩
      · rw [z_w]; exact (q2_w _).mpr ⟨lb, c3_w _ ca1⟩
    · obtain ⟨p_w, q1_w, q2_w⟩ := lone_w _ a_w
      refine Or.inr ⟨p_w, q1_w, fun l hl ho => ?_⟩
      rcases two_w l hl with z_w | z_w
      · rw [z_w]; exact q2_w
      · rw [z_w] at ho; exact absurd ho b_w
  · by_cases b_w : mk_bt on (2 * j_w + 1) = true
    · obtain ⟨p_w, q1_w, q2_w⟩ := lone_w _ b_w
      refine Or.inr ⟨p_w, q1_w, fun l hl ho => ?_⟩
      rcases two_w l hl with z_w | z_w
      · rw [z_w] at ho; exact absurd ho a_w
      · rw [z_w]; exact q2_w
    · exact Or.inl ⟨eq_false_of_ne_true a_w, eq_false_of_ne_true b_w⟩
/-- at most 32 cubes do -/
theorem exc_w (hW : W ≤ 6) (W1_w : 1 ≤ W) (dj : on &&& off = 0) (ob_w : ∀ l, mk_bt on l = true → l < 2 ^ W) (P_w : PRx on off W n_w ca wt) : ∃ L, CVw n_w ca (mk_bt on) L ∧ L.length ≤ 32 := by
  have h2 := lc_p2 hW
  have st_w : ∀ k, ∃ L : List Nat, (∀ p_w, p_w ∈ L → p_w < n_w) ∧ L.length ≤ k ∧ ∀ l, l / 2 < k → mk_bt on l = true → ∃ p_w, p_w ∈ L ∧ ca p_w l = true := fun k => by
    induction k with
    | zero => exact ⟨[], fun p_w hp => (by cases hp), Nat.le_refl _, fun l hl => absurd hl (Nat.not_lt_zero _)⟩
    | succ k ih =>
      obtain ⟨L, a1_w, a2, a3⟩ := ih
      rcases pai_w hW W1_w dj ob_w P_w k with ⟨b1, b2⟩ | ⟨p_w, b1, b2⟩
      · refine ⟨L, a1_w, by omega, fun l hl ho => a3 l ?_ ho⟩
        by_cases e_w : l / 2 = k
        · rcases (show l = 2 * k ∨ l = 2 * k + 1 by omega) with z_w | z_w
          · rw [z_w, b1] at ho; cases ho
          · rw [z_w, b2] at ho; cases ho
        · omega
      · refine ⟨p_w :: L, fun q_w hq => ?_, by show L.length + 1 ≤ k + 1; omega, fun l hl ho => ?_⟩
        · rcases List.mem_cons.mp hq with z_w | z_w
          · rw [z_w]; exact b1
          · exact a1_w q_w z_w
        · by_cases e_w : l / 2 = k
          · exact ⟨p_w, List.mem_cons_self, b2 l e_w ho⟩
          · obtain ⟨q_w, q1_w, q2_w⟩ := a3 l (by omega) ho
            exact ⟨q_w, List.mem_cons_of_mem _ q1_w, q2_w⟩
  obtain ⟨L, a1_w, a2, a3⟩ := st_w 32
  exact ⟨L, ⟨a1_w, fun l hl => a3 l (by have := ob_w l hl; omega) hl⟩, a2⟩
end PRx
/-- the least letters of the fewest cubes -/
def LSx (on off : Int64) (W L : Nat) : Prop := ∃ (n_w : Nat) (ca : Nat → Nat → Bool) (wt : Nat → Nat), PRx on off W n_w ca wt ∧ ∃ T : List Nat, T.length ≤ 32 ∧ CVw n_w ca (mk_bt on) T ∧ wsw wt T = 256 * T.length + L ∧ ∀ K_w, CVw n_w ca (mk_bt on) K_w → wsw wt T ≤ wsw wt K_w
/-- sums of the first -/
def sumlw (f_w : Nat → Nat) : Nat → Nat
  | 0 => 0
  | k + 1 => sumlw f_w k + f_w k
theorem sumlw.tk {t lt wt : Nat → Nat} : ∀ {k : Nat}, (∀ i_w, i_w < k → wt (t i_w) = 256 + lt (t i_w)) → wsw wt (tkl t k) = 256 * k + sumlw (fun i_w => lt (t i_w)) k
  | 0, _ => rfl
  | k + 1, h_w => by
    have a_w := sumlw.tk (k := k) (fun i_w hi_w => h_w i_w (by omega))
    have b_w := h_w k (Nat.lt_succ_self k)
    show wt (t k) + wsw wt (tkl t k) = 256 * (k + 1) + (sumlw (fun i_w => lt (t i_w)) k + lt (t k))
    omega
theorem sumlw.le {f_w : Nat → Nat} {b_w : Nat} : ∀ {k : Nat}, (∀ i_w, i_w < k → f_w i_w ≤ b_w) → sumlw f_w k ≤ b_w * k
  | 0, _ => Nat.zero_le _
  | k + 1, h_w => by
    have a_w := sumlw.le (k := k) (fun i_w hi_w => h_w i_w (by omega))
    have c := h_w k (Nat.lt_succ_self k)
    show sumlw f_w k + f_w k ≤ b_w * (k + 1)
    rw [Nat.mul_succ]
    omega
/-- the class solves a_w wire -/
theorem sol_w {W w_w : Nat} {z_w z' : dc_M} (hW : W ≤ 6) (hw : w_w < W) (h6 : z_w.1 15 6 = Int32.ofNat W) (h7 : (z_w.1 15 7).toInt = ((3 ^ W : Nat) : Int)) (dj : z_w.2.1 16 w_w &&& z_w.2.1 17 w_w = 0) (ob_w : ∀ l, mk_bt (z_w.2.1 16 w_w) l = true → l < 2 ^ W) (h_w : d_X8_solve 15 (Int32.ofNat w_w) z_w = some z') : (b32 (z_w.1 15 8) w_w = true ∧ z' = z_w) ∨ (b32 (z_w.1 15 8) w_w = false ∧ (∃ L, LSx (z_w.2.1 16 w_w) (z_w.2.1 17 w_w) W L ∧ z'.1 19 w_w = Int32.ofNat L ∧ L ≤ 192) ∧ z'.1 15 8 = z_w.1 15 8 ||| ((1 : Int32) <<< (Int32.ofNat w_w &&& 31)) ∧ (∀ j_w, j_w ≠ w_w → z'.1 19 j_w = z_w.1 19 j_w) ∧ (∀ b_w, b_w ≠ 15 → ¬ (18 ≤ b_w ∧ b_w ≤ 29) → z'.1 b_w = z_w.1 b_w) ∧ (∀ k, k ≠ 8 → z'.1 15 k = z_w.1 15 k) ∧ (∀ b_w, b_w ≠ 25 → b_w ≠ 28 → z'.2.1 b_w = z_w.2.1 b_w) ∧ z'.2.2 = z_w.2.2) := by
  have h3 := lc_p3 hW
  have wn_w : (Int32.ofNat w_w).toNatClampNeg = w_w := on_n (by omega)
  have wt_ : (Int32.ofNat w_w).toInt = w_w := mk_i (by omega)
  unfold d_X8_solve at h_w
  have bt_w := @b32_t1 (z_w.1 15 8) (Int32.ofNat w_w) (by rw [wt_]; omega)
  rw [wn_w] at bt_w
  by_cases s : (((z_w.1 15 8) >>> (Int32.ofNat w_w &&& 31)) &&& (1 : Int32)).toInt = 0
  · rw [if_pos s] at h_w
    have nb : b32 (z_w.1 15 8) w_w = false := eq_false_of_ne_true (fun q_w => by have := bt_w.mpr q_w; omega)
    obtain ⟨on, hon⟩ : ∃ on, z_w.2.1 16 w_w = on := ⟨_, rfl⟩
    obtain ⟨off, hoff⟩ : ∃ off, z_w.2.1 17 w_w = off := ⟨_, rfl⟩
    obtain ⟨Z_w, hZ⟩ : ∃ Z_w, dc_wi z_w 15 8 ((z_w.1 15 8) ||| ((1 : Int32) <<< (Int32.ofNat w_w &&& 31))) = Z_w := ⟨_, rfl⟩
    have zk : ∀ b_w k, ¬ (b_w = 15 ∧ k = 8) → Z_w.1 b_w k = z_w.1 b_w k := fun b_w k hb_w => by rw [← hZ]; exact wi_k hb_w
    have z8 : Z_w.1 15 8 = z_w.1 15 8 ||| ((1 : Int32) <<< (Int32.ofNat w_w &&& 31)) := by rw [← hZ]; exact wi_s
    have z2 : Z_w.2 = z_w.2 := by rw [← hZ]; rfl
    rw [hZ, wn_w, show 15 + 6 = 21 from rfl, show 15 + 1 = 16 from rfl, show 15 + 2 = 17 from rfl, show 15 + 3 = 18 from rfl, show 15 + 4 = 19 from rfl, zk 15 6 (by omega), zk 15 7 (by omega), z2, hon, hoff, h6] at h_w
    rw [hon, hoff] at dj
    rw [hon] at ob_w
    obtain ⟨q1_w, hq1, h_w⟩ := Option.bind_eq_some_iff.mp h_w
    obtain ⟨q2_w, hq2, h_w⟩ := Option.bind_eq_some_iff.mp h_w
    obtain ⟨y_w, G_w, hy⟩ := gp_w hW h7 hq1
    obtain ⟨⟨g1, g2, g3_w, g4⟩, g5_w, g6⟩ := G_w
    obtain ⟨n_w, hn⟩ : ∃ n_w, PNw on off W (3 ^ W) = n_w := ⟨_, rfl⟩
    rw [hn] at g5_w
    have n7 : n_w ≤ 729 := by have := PNw.le (on := on) (off := off) (W := W) (3 ^ W); omega
    obtain ⟨ca, hca⟩ : ∃ ca : Nat → Nat → Bool, ∀ p_w j_w, ca p_w j_w = mk_bt (y_w.2.1 25 p_w) j_w := ⟨_, fun _ _ => rfl⟩
    obtain ⟨lt, hlt⟩ : ∃ lt : Nat → Nat, ∀ p_w, lt p_w = ((y_w.1 24 p_w).toInt).toNat - 256 := ⟨_, fun _ => rfl⟩
    obtain ⟨wt, hwt⟩ : ∃ wt : Nat → Nat, ∀ p_w, wt p_w = 256 + lt p_w := ⟨_, fun _ => rfl⟩
    have des : ∀ p_w, p_w < n_w → ∃ c, c < 3 ^ W ∧ lc_prime on off W c ∧ PNw on off W c = p_w ∧ y_w.1 23 p_w = Int32.ofNat c ∧ y_w.1 24 p_w = Int32.ofNat (256 + LTw W c) ∧ lt p_w = LTw W c ∧ LTw W c ≤ 6 ∧ ∀ j_w, ca p_w j_w = true ↔ j_w < 2 ^ W ∧ lc_C W c j_w := fun p_w hp => by
      rw [← hn] at hp
      obtain ⟨c, c1_w, c2_w, c3_w⟩ := PNw.sj hp
      obtain ⟨a1_w, a2, a3⟩ := g6 c c1_w c2_w
      rw [c3_w] at a1_w a2 a3
      have l6 := @LTw.le W c
      refine ⟨c, c1_w, c2_w, c3_w, a1_w, a2, ?_, by omega, fun j_w => ?_⟩
      · rw [hlt, a2, mk_i (by omega)]; omega
      · rw [hca]
        by_cases j6_w : j_w < 64
        · exact a3 j_w j6_w
        · rw [bthi_w _ (by omega)]
          have := lc_p2 hW
          exact ⟨fun q_w => (by cases q_w), fun q_w => by omega⟩
    have PR_w : PRx on off W n_w ca wt := ⟨hn.symm, fun c hc_w hp => by
      have lt' := PNw.lt hc_w hp
      rw [hn] at lt'
      obtain ⟨c', d1_w, d2_w, d3_w, d4_w, d5_w, d6_w, d7_w, d8_w⟩ := des _ lt'
      have e_w : c' = c := by
        rcases Nat.lt_trichotomy c' c with z_w | z_w | z_w
        · have := PNw.lt z_w d2_w; omega
        · exact z_w
        · have := PNw.lt z_w hp; omega
      rw [e_w] at d6_w d8_w
      exact ⟨by rw [hwt, d6_w], d8_w⟩⟩
    have WL_w := wl_w (ca := ca) (wt := wt) g5_w n7 (fun p_w hp => by
      obtain ⟨c, -, -, -, -, d5_w, d6_w, d7_w, -⟩ := des p_w hp
      rw [d5_w, mk_i (by omega), hwt, d6_w]
      exact ⟨rfl, by omega⟩) (fun p_w _ j_w => (hca p_w j_w).symm) hy
    obtain ⟨⟨w1_w, w2_w, w3_w, w4_w⟩, w5, k, w6_w, w7_w, w8, w9⟩ := WL_w
    have CB : CBw n_w ca wt on q1_w := ⟨⟨by rw [w2_w 1 (by decide)]; exact g5_w, n7⟩, fun p_w hp => by
      obtain ⟨c, -, -, -, -, d5_w, d6_w, d7_w, -⟩ := des p_w hp
      rw [w1_w 24 (by decide) (by decide) (by decide) (by decide), d5_w, mk_i (by omega), hwt, d6_w]
      exact ⟨rfl, by omega, by omega⟩, fun p_w hp j_w => by rw [w3_w 25 (by decide)]; exact (hca p_w j_w).symm, w5, k, w6_w, w7_w, w8, w9⟩
    obtain ⟨v2, q2m⟩ := q2_w
    have e16_w : q1_w.2.1 16 w_w = on := by rw [w3_w 16 (by decide), g3_w 16 (by decide), z2]; exact hon
    rw [e16_w] at hq2
    obtain ⟨W0_w, t, tk, ⟨-, mn_w⟩, ⟨t1_w, t2_w, t3_w, t4_w, t5_w, t6⟩, t7⟩ := chs_w CB (exc_w hW (by omega) dj ob_w PR_w) hq2
    have tn_w : ∀ i_w, i_w < tk → t i_w < n_w := fun i_w hi_w => t2_w.1 _ (tkl.mem.mpr ⟨i_w, hi_w, rfl⟩)
    have sm_w := sumlw.tk (t := t) (lt := lt) (wt := wt) (k := tk) (fun i_w _ => hwt _)
    have sb_w : ∀ i_w, i_w ≤ tk → sumlw (fun i_w => lt (t i_w)) i_w ≤ 6 * i_w := fun i_w hi_w => sumlw.le (fun j_w hj => by
      obtain ⟨c, -, -, -, -, -, d6_w, d7_w, -⟩ := des _ (tn_w j_w (by omega))
      show lt (t j_w) ≤ 6
      omega)
    -- the letters
    obtain ⟨Y, hY⟩ : ∃ Y, dc_wi (dc_wi q2m 18 w_w v2) 19 w_w 0 = Y := ⟨_, rfl⟩
    have h_w : d_X8_solve_l79 15 (Int32.ofNat w_w) 0 (dc_wi (dc_wi q2m 18 w_w v2) 19 w_w 0) = some z' := h_w
    rw [hY] at h_w
    have yk : ∀ b_w k, ¬ ((b_w = 18 ∨ b_w = 19) ∧ k = w_w) → Y.1 b_w k = q2m.1 b_w k := fun b_w k hb_w => by rw [← hY, wi_k (by omega), wi_k (by omega)]
    have y18 : Y.1 18 w_w = Int32.ofNat tk := by rw [← hY, wi_k (by omega), wi_s]; exact t7
    have y19 : Y.1 19 w_w = 0 := by rw [← hY]; exact wi_s
    have y2 : Y.2 = q2m.2 := by rw [← hY]; rfl
    have base_w : ∀ b_w, b_w ≠ 15 → ¬ (18 ≤ b_w ∧ b_w ≤ 29) → q2m.1 b_w = z_w.1 b_w := fun b_w b1 b2 => by
      rw [t4_w b_w (by omega), w1_w b_w (by omega) (by omega) (by omega) (by omega), g1 b_w (by omega) (by omega) (by omega)]
      exact funext (fun k => zk b_w k (by omega))
    have b15 : ∀ k, q2m.1 15 k = Z_w.1 15 k := fun k => by rw [t4_w 15 (by decide), w1_w 15 (by decide) (by decide) (by decide) (by decide), g1 15 (by decide) (by decide) (by decide)]
    have b19 : ∀ k, q2m.1 19 k = z_w.1 19 k := fun k => by rw [t4_w 19 (by decide), w1_w 19 (by decide) (by decide) (by decide) (by decide), g1 19 (by decide) (by decide) (by decide)]; exact zk 19 k (by omega)
    have bl : ∀ b_w, b_w ≠ 25 → b_w ≠ 28 → q2m.2.1 b_w = z_w.2.1 b_w := fun b_w b1 b2 => by rw [t5_w, w3_w b_w b2, g3_w b_w b1, z2]
    have br : q2m.2.2 = z_w.2.2 := by rw [t5_w, w4_w, g4, z2]
    have c22 : ∀ i_w, i_w < tk → ∃ c, c < 3 ^ W ∧ q2m.1 22 i_w = Int32.ofNat c ∧ lt (t i_w) = LTw W c := fun i_w hi_w => by
      obtain ⟨c, d1_w, -, -, d4_w, -, d6_w, -, -⟩ := des _ (tn_w i_w hi_w)
      refine ⟨c, d1_w, ?_, d6_w⟩
      rw [t6 i_w hi_w, w1_w 23 (by decide) (by decide) (by decide) (by decide)]
      exact d4_w
    have res : (∃ L, LSx on off W L ∧ z'.1 19 w_w = Int32.ofNat L ∧ L ≤ 192) ∧ (∀ b_w k, ¬ (b_w = 18 ∧ k = w_w) → ¬ (b_w = 19 ∧ k = w_w) → b_w ≠ 20 → z'.1 b_w k = q2m.1 b_w k) ∧ z'.2 = q2m.2 := by
      unfold d_X8_solve_l79 at h_w
      refine dc_lp_inv (s := ((0 : Int32), Y)) (fun s : Int32 × dc_M => ∃ i_w, i_w ≤ tk ∧ s.1 = Int32.ofNat i_w ∧ s.2.1 19 w_w = Int32.ofNat (sumlw (fun i_w => lt (t i_w)) i_w) ∧ s.2.1 18 w_w = Int32.ofNat tk ∧ (∀ b_w k, ¬ (b_w = 18 ∧ k = w_w) → ¬ (b_w = 19 ∧ k = w_w) → b_w ≠ 20 → s.2.1 b_w k = q2m.1 b_w k) ∧ s.2.2 = q2m.2) (fun z' => (∃ L, LSx on off W L ∧ z'.1 19 w_w = Int32.ofNat L ∧ L ≤ 192) ∧ (∀ b_w k, ¬ (b_w = 18 ∧ k = w_w) → ¬ (b_w = 19 ∧ k = w_w) → b_w ≠ 20 → z'.1 b_w k = q2m.1 b_w k) ∧ z'.2 = q2m.2) (fun s s' hI hs => ?_) (fun s u_w hI hs => ?_) ⟨0, Nat.zero_le _, rfl, y19, y18, fun b_w k k1_w k2_w _ => yk b_w k (by omega), y2⟩ h_w
      · obtain ⟨i_w, i1_w, i2_w, i3_w, i4_w, i5_w, i6_w⟩ := hI
        obtain ⟨x_w, m_w⟩ := s
        have i2_w : x_w = Int32.ofNat i_w := i2_w
        have i3_w : m_w.1 19 w_w = Int32.ofNat (sumlw (fun i_w => lt (t i_w)) i_w) := i3_w
        have i4_w : m_w.1 18 w_w = Int32.ofNat tk := i4_w
        have i5_w : ∀ b_w k, ¬ (b_w = 18 ∧ k = w_w) → ¬ (b_w = 19 ∧ k = w_w) → b_w ≠ 20 → m_w.1 b_w k = q2m.1 b_w k := i5_w
        have i6_w : m_w.2 = q2m.2 := i6_w
        have hs : d_X8_solve_l79b 15 (Int32.ofNat w_w) x_w m_w = some (.inl s') := hs
        unfold d_X8_solve_l79b at hs
        rw [i2_w, wn_w, show 15 + 3 = 18 from rfl, i4_w, mk_i (by omega), mk_i (by omega)] at hs
        by_cases c1_w : (tk : Int) ≤ i_w
        · rw [if_pos c1_w] at hs; cases hs
        · rw [if_neg c1_w, show 15 + 5 = 20 from rfl, show 15 + 6 + 1 = 22 from rfl, show 15 + 4 = 19 from rfl, on_n (show i_w < 1000 by omega), on_1 (show i_w < 1000 by omega)] at hs
          obtain ⟨g_w, hg, hs⟩ := Option.bind_eq_some_iff.mp hs
          rw [wi_k (by omega), wi_k (by omega)] at hg
          obtain ⟨c, c2_w, c3_w, c4_w⟩ := c22 i_w (by omega)
          rw [i5_w 22 i_w (by omega) (by omega) (by decide), c3_w, i5_w 15 6 (by omega) (by omega) (by decide), b15 6, zk 15 6 (by omega), h6] at hg
          have hg := ltc_w hW (show c < 1000 by omega) hg
          have hs := Sum.inl.inj (Option.some.inj hs)
          rw [← hs]
          have si := sb_w i_w i1_w
          have l6 := @LTw.le W c
          refine ⟨i_w + 1, by omega, rfl, ?_, ?_, fun b_w k k1_w k2_w k3_w => ?_, i6_w⟩
          · rw [wi_s, wi_k (by omega), i3_w, hg]
            show _ = Int32.ofNat (sumlw (fun i_w => lt (t i_w)) i_w + lt (t i_w))
            rw [c4_w]
            exact lc_add (by omega)
          · rw [wi_k (by omega), wi_k (by omega)]; exact i4_w
          · rw [wi_k (by omega), wi_k (by omega)]; exact i5_w b_w k k1_w k2_w k3_w
      · obtain ⟨i_w, i1_w, i2_w, i3_w, i4_w, i5_w, i6_w⟩ := hI
        obtain ⟨x_w, m_w⟩ := s
        have i2_w : x_w = Int32.ofNat i_w := i2_w
        have i3_w : m_w.1 19 w_w = Int32.ofNat (sumlw (fun i_w => lt (t i_w)) i_w) := i3_w
        have i4_w : m_w.1 18 w_w = Int32.ofNat tk := i4_w
        have hs : d_X8_solve_l79b 15 (Int32.ofNat w_w) x_w m_w = some (.inr u_w) := hs
        unfold d_X8_solve_l79b at hs
        rw [i2_w, wn_w, show 15 + 3 = 18 from rfl, i4_w, mk_i (by omega), mk_i (by omega)] at hs
        by_cases c1_w : (tk : Int) ≤ i_w
        · rw [if_pos c1_w] at hs
          have hs : m_w = u_w := Sum.inr.inj (Option.some.inj hs)
          rw [← hs]
          rw [show i_w = tk by omega] at i3_w
          have si := sb_w tk (Nat.le_refl _)
          exact ⟨⟨_, ⟨n_w, ca, wt, PR_w, tkl t tk, by rw [tkl.len]; exact t1_w, t2_w, by rw [tkl.len]; exact sm_w, fun K_w hK_w => by rw [t3_w]; exact mn_w K_w hK_w⟩, i3_w, by omega⟩, i5_w, i6_w⟩
        · rw [if_neg c1_w] at hs
          obtain ⟨g_w, -, hs⟩ := Option.bind_eq_some_iff.mp hs
          cases hs
    obtain ⟨r1_w, r2, r3⟩ := res
    refine Or.inr ⟨nb, by rw [hon, hoff]; exact r1_w, ?_, fun j_w hj => ?_, fun b_w b1 b2 => funext (fun k => ?_), fun k hk => ?_, fun b_w b1 b2 => ?_, ?_⟩
    · rw [r2 15 8 (by omega) (by omega) (by decide), b15]; exact z8
    · rw [r2 19 j_w (by omega) (by omega) (by decide)]; exact b19 j_w
    · rw [r2 b_w k (by omega) (by omega) (by omega), base_w b_w b1 b2]
    · rw [r2 15 k (by omega) (by omega) (by decide), b15]; exact zk 15 k (by omega)
    · rw [r3]; exact bl b_w b1 b2
    · rw [r3]; exact br
  · rw [if_neg s] at h_w
    refine Or.inl ⟨bt_w.mp ?_, (Option.some.inj h_w).symm⟩
    have := @a1_w ((z_w.1 15 8) >>> (Int32.ofNat w_w &&& 31))
    omega
