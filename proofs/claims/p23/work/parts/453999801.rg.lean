/-! ===== walks over places, the last place first ===== -/
def chw (P_w : Nat) (fr to_w : Nat → Nat) : Nat → List Nat → Nat → Prop
  | a_w, [], b_w => a_w = b_w
  | a_w, p_w :: l, b_w => p_w < P_w ∧ to_w p_w = b_w ∧ chw P_w fr to_w a_w l (fr p_w)
def wtw (fr : Nat → Nat) (dl : Nat → Int) : List Nat → Int
  | [] => 0
  | p_w :: l => dl (fr p_w) + wtw fr dl l
def tkw (tok : Nat → Bool) : List Nat → Nat
  | [] => 0
  | p_w :: l => (if tok p_w = true then 1 else 0) + tkw tok l
theorem chw.ap {P_w : Nat} {fr to_w : Nat → Nat} {a_w v_w : Nat} {r : List Nat} : ∀ {l : List Nat} {b_w : Nat}, chw P_w fr to_w v_w l b_w → chw P_w fr to_w a_w r v_w → chw P_w fr to_w a_w (l ++ r) b_w
  | [], _, h_w, h2 => by
    have h_w : v_w = _ := h_w
    rw [← h_w]
    exact h2
  | _ :: _, _, h_w, h2 => ⟨h_w.1, h_w.2.1, h_w.2.2.ap h2⟩
theorem wtw.ap {fr : Nat → Nat} {dl : Nat → Int} {r : List Nat} : ∀ {l : List Nat}, wtw fr dl (l ++ r) = wtw fr dl l + wtw fr dl r
  | [] => by show wtw fr dl r = 0 + _; omega
  | p_w :: l => by
    have := wtw.ap (fr := fr) (dl := dl) (r := r) (l := l)
    show dl (fr p_w) + wtw fr dl (l ++ r) = dl (fr p_w) + wtw fr dl l + _
    omega
theorem tkw.ap {tok : Nat → Bool} {r : List Nat} : ∀ {l : List Nat}, tkw tok (l ++ r) = tkw tok l + tkw tok r
  | [] => by show tkw tok r = 0 + _; omega
  | p_w :: l => by
    have := tkw.ap (tok := tok) (r := r) (l := l)
    show (if tok p_w = true then 1 else 0) + tkw tok (l ++ r) = (if tok p_w = true then 1 else 0) + tkw tok l + _
    omega
/-- where a_w walk to_w b_w is, i places ahead of its end -/
def vxw (fr : Nat → Nat) : Nat → List Nat → Nat → Nat
  | b_w, [], _ => b_w
  | b_w, _ :: _, 0 => b_w
  | _, p_w :: l, i + 1 => vxw fr (fr p_w) l i
theorem vxw.cut {P_w : Nat} {fr to_w : Nat → Nat} {a_w : Nat} : ∀ {l : List Nat} {b_w i : Nat}, chw P_w fr to_w a_w l b_w → chw P_w fr to_w (vxw fr b_w l i) (l.take i) b_w ∧ chw P_w fr to_w a_w (l.drop i) (vxw fr b_w l i)
  | [], b_w, i, h_w => by
    have h_w : a_w = b_w := h_w
    rw [h_w]
    cases i with
    | zero => exact ⟨rfl, rfl⟩
    | succ i => exact ⟨rfl, rfl⟩
  | p_w :: l, b_w, 0, h_w => ⟨rfl, h_w⟩
  | p_w :: l, b_w, i + 1, h_w => ⟨⟨h_w.1, h_w.2.1, (vxw.cut h_w.2.2).1⟩, (vxw.cut h_w.2.2).2⟩
theorem vxw.lt {P_w E_w : Nat} {fr to_w : Nat → Nat} {a_w : Nat} (hf : ∀ p_w, p_w < P_w → fr p_w < E_w) : ∀ {l : List Nat} {b_w i : Nat}, b_w < E_w → chw P_w fr to_w a_w l b_w → vxw fr b_w l i < E_w
  | [], _, i, hb, _ => by cases i <;> exact hb
  | _ :: _, _, 0, hb, _ => hb
  | p_w :: l, _, i + 1, _, h_w => show vxw fr (fr p_w) l i < E_w from vxw.lt hf (hf p_w h_w.1) h_w.2.2
theorem tkw.le {tok : Nat → Bool} : ∀ {l : List Nat}, tkw tok l ≤ l.length
  | [] => Nat.le_refl _
  | p_w :: l => by
    have := tkw.le (tok := tok) (l := l)
    show (if tok p_w = true then 1 else 0) + tkw tok l ≤ l.length + 1
    split <;> omega
/-- a_w closed walk longer than there are events is two shorter ones -/
theorem split_w {P_w E_w e_w : Nat} {fr to_w : Nat → Nat} {tok : Nat → Bool} {dl : Nat → Int} {l : List Nat} (hf : ∀ p_w, p_w < P_w → fr p_w < E_w) (he : e_w < E_w) (h_w : chw P_w fr to_w e_w l e_w) (hl : E_w < l.length) : ∃ r q v_w, v_w < E_w ∧ chw P_w fr to_w e_w r e_w ∧ chw P_w fr to_w v_w q v_w ∧ r ≠ [] ∧ q ≠ [] ∧ r.length < l.length ∧ q.length < l.length ∧ wtw fr dl r + wtw fr dl q = wtw fr dl l ∧ tkw tok r + tkw tok q = tkw tok l := by
  obtain ⟨i, j_w, h1, h2, h3⟩ := phole_ E_w (fun i => vxw fr e_w l i) (fun i _ => vxw.lt hf he h_w)
  have h3 : vxw fr e_w l i = vxw fr e_w l j_w := h3
  obtain ⟨c1, c2_w⟩ := vxw.cut (i := i) h_w
  obtain ⟨d1_w, d2_w⟩ := vxw.cut (i := j_w) h_w
  have vE : vxw fr e_w l i < E_w := vxw.lt hf he h_w
  -- the middle
  have mid_w : chw P_w fr to_w (vxw fr e_w l j_w) ((l.drop i).take (j_w - i)) (vxw fr e_w l i) := by
    have m_w := (vxw.cut (i := j_w - i) c2_w).1
    have e1_w : ∀ (l : List Nat) (b_w i j_w : Nat), i ≤ j_w → i ≤ l.length → vxw fr (vxw fr b_w l i) (l.drop i) (j_w - i) = vxw fr b_w l j_w := fun l => by
      induction l with
      | nil => intro b_w i j_w h1 h2; have h2 : i ≤ 0 := h2; rw [show i = 0 by omega]; rfl
      | cons p_w l ih =>
        intro b_w i j_w h1 h2
        cases i with
        | zero => rfl
        | succ i =>
          cases j_w with
          | zero => omega
          | succ j_w =>
            have h2 : i + 1 ≤ l.length + 1 := h2
            have := ih (fr p_w) i j_w (by omega) (by omega)
            rw [show j_w + 1 - (i + 1) = j_w - i by omega]
            exact this
    rw [e1_w l e_w i j_w (by omega) (by omega)] at m_w
    exact m_w
  have parts_w : l = l.take i ++ ((l.drop i).take (j_w - i) ++ l.drop j_w) := by
    have a1_w : (l.drop i).drop (j_w - i) = l.drop j_w := by rw [List.drop_drop, show i + (j_w - i) = j_w by omega]
    rw [← a1_w, List.take_append_drop, List.take_append_drop]
  have w1_w : wtw fr dl l = wtw fr dl (l.take i) + (wtw fr dl ((l.drop i).take (j_w - i)) + wtw fr dl (l.drop j_w)) := by
    have e_w := congrArg (wtw fr dl) parts_w
    rw [wtw.ap, wtw.ap] at e_w
    exact e_w
  have w2_w : tkw tok l = tkw tok (l.take i) + (tkw tok ((l.drop i).take (j_w - i)) + tkw tok (l.drop j_w)) := by
    have e_w := congrArg (tkw tok) parts_w
    rw [tkw.ap, tkw.ap] at e_w
    exact e_w
  have l1 : (l.take i).length = i := by rw [List.length_take]; omega
  have l2 : ((l.drop i).take (j_w - i)).length = j_w - i := by rw [List.length_take, List.length_drop]; omega
  have l3 : (l.drop j_w).length = l.length - j_w := List.length_drop
  refine ⟨l.take i ++ l.drop j_w, (l.drop i).take (j_w - i), vxw fr e_w l i, vE, ?_, ?_, ?_, ?_, ?_, ?_, ?_, ?_⟩
  · rw [← h3] at d2_w
    exact c1.ap d2_w
  · rw [← h3] at mid_w
    exact mid_w
  · intro q
    have := congrArg List.length q
    rw [List.length_append, l1, l3] at this
    have this : i + (l.length - j_w) = 0 := this
    omega
  · intro q
    have := congrArg List.length q
    rw [l2] at this
    have this : j_w - i = 0 := this
    omega
  · rw [List.length_append, l1, l3]
    omega
  · rw [l2]
    omega
  · rw [wtw.ap]
    omega
  · rw [tkw.ap]
    omega
/-- without a_w token no walk is closed -/
theorem tok_w {P_w E_w : Nat} {fr to_w od : Nat → Nat} {tok : Nat → Bool} (O_w : ODw E_w P_w fr to_w tok od) (hf : ∀ p_w, p_w < P_w → fr p_w < E_w ∧ to_w p_w < E_w) {e_w : Nat} {l : List Nat} (h_w : chw P_w fr to_w e_w l e_w) (hl : l ≠ []) : 1 ≤ tkw tok l := by
  obtain ⟨o1, o2, o3_w, o4_w⟩ := O_w
  obtain ⟨ps_w, hps⟩ := Classical.axiomOfChoice (show ∀ e_w, ∃ j_w, e_w < E_w → j_w < E_w ∧ od j_w = e_w from fun e_w => by
    by_cases z_w : e_w < E_w
    · obtain ⟨j_w, w_w⟩ := o3_w e_w z_w
      exact ⟨j_w, fun _ => w_w⟩
    · exact ⟨0, fun w_w => absurd w_w z_w⟩)
  have st_w : ∀ p_w, p_w < P_w → tok p_w = false → ps_w (fr p_w) < ps_w (to_w p_w) := fun p_w hp ht => by
    obtain ⟨n1_w, n2_w⟩ := hf p_w hp
    obtain ⟨w1_w, w2_w⟩ := hps (to_w p_w) n2_w
    obtain ⟨i, i1_w, i2_w⟩ := o4_w (ps_w (to_w p_w)) w1_w p_w hp w2_w.symm ht
    obtain ⟨y1, y2⟩ := hps (fr p_w) n1_w
    have : ps_w (fr p_w) = i := o2 _ _ y1 (by omega) (y2.trans i2_w.symm)
    omega
  have up_w : ∀ (l : List Nat) (b_w : Nat), chw P_w fr to_w e_w l b_w → tkw tok l = 0 → ps_w e_w ≤ ps_w b_w ∧ (l ≠ [] → ps_w e_w < ps_w b_w) := fun l => by
    induction l with
    | nil =>
      intro b_w h_w _
      have h_w : e_w = b_w := h_w
      rw [h_w]
      exact ⟨Nat.le_refl _, fun q => absurd rfl q⟩
    | cons p_w l ih =>
      intro b_w h_w ht
      obtain ⟨h1, h2, h3⟩ := h_w
      have ht : (if tok p_w = true then 1 else 0) + tkw tok l = 0 := ht
      have tp : tok p_w = false := by
        refine eq_false_of_ne_true (fun q => ?_)
        rw [if_pos q] at ht
        omega
      have := (ih (fr p_w) h3 (by omega)).1
      have := st_w p_w h1 tp
      rw [← h2]
      exact ⟨by omega, fun _ => by omega⟩
  refine Nat.pos_of_ne_zero (fun z_w => ?_)
  have := (up_w l e_w h_w z_w).2 hl
  omega
