/-! ===== the reference's sheet, if it ends ===== -/
section SH1
variable {d N : Nat} {h h0 : ab_H} {ws : List Value} {la le : Nat → Int32} {Q : Option Value → ab_H → Prop}
theorem in_run {x y w : Int64} (d : Nat) (h : ab_H) : ab_go d ab_M_X10_in 0 [(0, .long x), (2, .long y), (4, .long w)] [] h (fun r h' => h' = h ∧ ((r = some (.int 1) ∧ y.toInt ≤ x.toInt ∧ x.toInt ≤ w.toInt) ∨ (r = some (.int 0) ∧ ¬ (y.toInt ≤ x.toInt ∧ x.toInt ≤ w.toInt)))) := by
  refine go_s (pc' := 1) (lv' := [(0, .long x), (2, .long y), (4, .long w)]) (st' := [.long x]) (h' := h) rfl rfl rfl ?_
  refine go_s (pc' := 2) (lv' := [(0, .long x), (2, .long y), (4, .long w)]) (st' := [.long y, .long x]) (h' := h) rfl rfl rfl ?_
  refine go_s (pc' := 3) (lv' := [(0, .long x), (2, .long y), (4, .long w)]) (st' := [.int (lg_cmp x y)]) (h' := h) rfl rfl rfl ?_
  refine go_ifl (c := .lt) (off := 14) (tgt := 17) rfl rfl (fun q => ?_) (fun q => ?_)
  · have q : x.toInt < y.toInt := q
    refine go_s (pc' := 18) (lv' := [(0, .long x), (2, .long y), (4, .long w)]) (st' := [.int 0]) (h' := h) rfl rfl rfl ?_
    exact go_rz rfl rfl rfl ⟨rfl, Or.inr ⟨rfl, fun z => by omega⟩⟩
  have q : ¬ x.toInt < y.toInt := q
  refine go_s (pc' := 7) (lv' := [(0, .long x), (2, .long y), (4, .long w)]) (st' := [.long x]) (h' := h) rfl rfl rfl ?_
  refine go_s (pc' := 9) (lv' := [(0, .long x), (2, .long y), (4, .long w)]) (st' := [.long w, .long x]) (h' := h) rfl rfl rfl ?_
  refine go_s (pc' := 10) (lv' := [(0, .long x), (2, .long y), (4, .long w)]) (st' := [.int (lg_cmp x w)]) (h' := h) rfl rfl rfl ?_
  refine go_ifl (c := .gt) (off := 7) (tgt := 17) rfl rfl (fun q2 => ?_) (fun q2 => ?_)
  · have q2 : w.toInt < x.toInt := q2
    refine go_s (pc' := 18) (lv' := [(0, .long x), (2, .long y), (4, .long w)]) (st' := [.int 0]) (h' := h) rfl rfl rfl ?_
    exact go_rz rfl rfl rfl ⟨rfl, Or.inr ⟨rfl, fun z => by omega⟩⟩
  · have q2 : ¬ w.toInt < x.toInt := q2
    refine go_s (pc' := 14) (lv' := [(0, .long x), (2, .long y), (4, .long w)]) (st' := [.int 1]) (h' := h) rfl rfl rfl ?_
    refine go_goto (off := 4) (tgt := 18) rfl rfl ?_
    exact go_rz rfl rfl rfl ⟨rfl, Or.inl ⟨rfl, by omega, by omega⟩⟩
def sh_M (h : ab_H) (ws : List Value) (la le : Nat → Int32) : Prop := ab_rd h 82 = some (.inr (10, ws)) ∧ ab_rd h 117 = some (.inl (0, 4, .inl la)) ∧ ab_rd h 118 = some (.inl (0, 4, .inl le)) ∧ ∃ mc : Nat → Int32, ab_rd h 119 = some (.inl (0, 256, .inl mc))
def sh_Q (ws : List Value) : Prop := ws[67]? = some (.ref 117) ∧ ws[68]? = some (.ref 118) ∧ ws[69]? = some (.ref 119)
theorem ms_56 (hq : sh_Q ws) {k : Int32} (kk : ∀ h, sh_M h ws la le → Q (some (.int 1)) h) : ∀ (N : Nat) (h : ab_H) (lv : ab_L) (x : Int32), sh_M h ws la le → ab_lk lv 0 = some (.ref 82) → ab_lk lv 1 = some (.int k) → ab_lk lv 4 = some (.int x) → ab_pa N d ab_M_X10_sheet 56 lv [] h Q := by
  intro N
  induction N with
  | zero => intro h lv x _ _ _ _; exact pa_zero
  | succ N ih =>
    intro h lv x m f0 f1 f4
    refine pa_lt (pc' := 58) (lv' := lv) (st' := [.int x]) (h' := h) rfl rfl (po_ild (nL := 0) f4) ?_
    refine pa_s (pc' := 60) (lv' := lv) (st' := [.int 64, .int x]) (h' := h) rfl rfl rfl ?_
    refine pa_ic (c := .ge) (off := 22) (tgt := 82) rfl rfl (fun _ => ?_) (fun _ => ?_)
    · refine pa_s (pc' := 83) (lv' := lv) (st' := [.int 1]) (h' := h) rfl rfl rfl ?_
      exact px_ret (x := 1) rfl rfl (fun q hq => by cases hq; rfl) (kk h m)
    obtain ⟨m1, m2, m3, mc, m4⟩ := m
    refine pa_s (pc' := 64) (lv' := lv) (st' := [.ref 82]) (h' := h) rfl rfl (ig_ald f0) ?_
    refine pa_get (ci := 10) (k := 69) rfl m1 hq.2.2 ?_
    refine pa_s (pc' := 69) (lv' := lv) (st' := [.int 64, .ref 119]) (h' := h) rfl rfl rfl ?_
    refine pa_s (pc' := 70) (lv' := lv) (st' := [.int k, .int 64, .ref 119]) (h' := h) rfl rfl (po_ild (nL := 0) f1) ?_
    refine pa_s (pc' := 71) (lv' := lv) (st' := [.int (64 * k), .ref 119]) (h' := h) rfl rfl rfl ?_
    refine pa_s (pc' := 73) (lv' := lv) (st' := [.int x, .int (64 * k), .ref 119]) (h' := h) rfl rfl (po_ild (nL := 0) f4) ?_
    refine pa_s (pc' := 74) (lv' := lv) (st' := [.int (64 * k + x), .ref 119]) (h' := h) rfl rfl rfl ?_
    refine pa_s (pc' := 75) (lv' := lv) (st' := [.int 0, .int (64 * k + x), .ref 119]) (h' := h) rfl rfl rfl ?_
    refine px_ias rfl m4 (by decide) (fun _ => ?_)
    have m' : sh_M (ab_wr h 119 (.inl (0, 256, .inl (upd mc (64 * k + x).toNatClampNeg 0)))) ws la le := ⟨(ab_rd_other (by decide)).trans m1, (ab_rd_other (by decide)).trans m2, (ab_rd_other (by decide)).trans m3, _, ab_rd_self (ab_rd_of m4).1⟩
    generalize ab_wr h 119 (.inl (0, 256, .inl (upd mc (64 * k + x).toNatClampNeg 0))) = h1 at m' ⊢
    refine pa_s (pc' := 79) (lv' := (ab_s1 4 (.int (x + Int32.ofInt 1)) lv)) (st' := []) (h' := h1) rfl rfl (px_inc (by decide) f4) ?_
    have g4 : ab_lk (ab_s1 4 (.int (x + Int32.ofInt 1)) lv) 4 = some (.int (x + Int32.ofInt 1)) := mk_s1s
    have g0 := po_s1_other (v := .int (x + Int32.ofInt 1)) (i := 4) f0 (by decide) (fun q => absurd q.1 (by decide))
    have g1 := po_s1_other (v := .int (x + Int32.ofInt 1)) (i := 4) f1 (by decide) (fun q => absurd q.1 (by decide))
    generalize ab_s1 4 (.int (x + Int32.ofInt 1)) lv = lv1 at g0 g1 g4 ⊢
    refine pa_goto (off := -23) (tgt := 56) rfl rfl ?_
    exact ih h1 lv1 _ m' g0 g1 g4
def sh_ok (k l n : Int32) : Prop := (0 ≤ k.toInt ∧ k.toInt ≤ 3) ∧ (0 ≤ l.toInt ∧ l.toInt ≤ 2) ∧ 0 ≤ n.toInt ∧ n.toInt ≤ 64
theorem sh_il {x : Int32} : (Int32.toInt64 x).toInt = x.toInt := Int32.toInt_toInt64 x
theorem ms_run (hq : sh_Q ws) (m : sh_M h ws la le) (k l n : Int32) : ∀ N, ab_pa N (d + 1) ab_M_X10_sheet 0 [(0, .ref 82), (1, .int k), (2, .int l), (3, .int n)] [] h (fun _ h' => (sh_ok k l n ∧ sh_M h' ws (upd la k.toNatClampNeg l) (upd le k.toNatClampNeg n)) ∨ (¬ sh_ok k l n ∧ sh_M h' ws la le)) := by
  intro N
  have bad : ¬ sh_ok k l n → ∀ lv v, ab_pa N (d + 1) ab_M_X10_sheet 31 lv [.int v] h (fun _ h' => (sh_ok k l n ∧ sh_M h' ws (upd la k.toNatClampNeg l) (upd le k.toNatClampNeg n)) ∨ (¬ sh_ok k l n ∧ sh_M h' ws la le)) := fun hb lv v => px_ret (x := v) rfl rfl (fun q hq => by cases hq; rfl) (Or.inr ⟨hb, m⟩)
  have L0 : [(0, Value.ref 82), (1, .int k), (2, .int l), (3, .int n)] = [(0, Value.ref 82), (1, .int k), (2, .int l), (3, .int n)] := rfl
  refine pa_s (pc' := 1) (lv' := [(0, .ref 82), (1, .int k), (2, .int l), (3, .int n)]) (st' := [.int k]) (h' := h) rfl rfl rfl ?_
  refine pa_s (pc' := 2) (lv' := [(0, .ref 82), (1, .int k), (2, .int l), (3, .int n)]) (st' := [.long (Int32.toInt64 k)]) (h' := h) rfl rfl rfl ?_
  refine pa_s (pc' := 3) (lv' := [(0, .ref 82), (1, .int k), (2, .int l), (3, .int n)]) (st' := [.long 0, .long (Int32.toInt64 k)]) (h' := h) rfl rfl rfl ?_
  refine pa_s (pc' := 6) (lv' := [(0, .ref 82), (1, .int k), (2, .int l), (3, .int n)]) (st' := [.long 3, .long 0, .long (Int32.toInt64 k)]) (h' := h) rfl rfl rfl ?_
  refine pa_c (M' := ab_M_X10_in) (A := [.long (Int32.toInt64 k), .long 0, .long 3]) (rest := []) rfl rfl rfl rfl (in_run d h) (fun r h1 hp => ?_)
  obtain ⟨rfl, hp⟩ := hp
  rw [sh_il, show (0 : Int64).toInt = 0 from rfl, show (3 : Int64).toInt = 3 from rfl] at hp
  have no : ∀ lv, ¬ sh_ok k l n → ab_pa N (d + 1) ab_M_X10_sheet 30 lv [] h1 (fun _ h' => (sh_ok k l n ∧ sh_M h' ws (upd la k.toNatClampNeg l) (upd le k.toNatClampNeg n)) ∨ (¬ sh_ok k l n ∧ sh_M h' ws la le)) := fun lv hb => pa_s (pc' := 31) (lv' := lv) (st' := [.int (-1)]) (h' := h1) rfl rfl rfl (bad hb lv _)
  rcases hp with ⟨rfl, k1, k2⟩ | ⟨rfl, hk⟩
  rotate_left
  · refine pa_ift (off := 21) (tgt := 30) rfl rfl (by decide) ?_
    exact no _ (fun z => hk z.1)
  refine pa_iff rfl (by decide) ?_
  refine pa_s (pc' := 13) (lv' := [(0, .ref 82), (1, .int k), (2, .int l), (3, .int n)]) (st' := [.int l]) (h' := h1) rfl rfl rfl ?_
  refine pa_s (pc' := 14) (lv' := [(0, .ref 82), (1, .int k), (2, .int l), (3, .int n)]) (st' := [.long (Int32.toInt64 l)]) (h' := h1) rfl rfl rfl ?_
  refine pa_s (pc' := 15) (lv' := [(0, .ref 82), (1, .int k), (2, .int l), (3, .int n)]) (st' := [.long 0, .long (Int32.toInt64 l)]) (h' := h1) rfl rfl rfl ?_
  refine pa_s (pc' := 18) (lv' := [(0, .ref 82), (1, .int k), (2, .int l), (3, .int n)]) (st' := [.long 2, .long 0, .long (Int32.toInt64 l)]) (h' := h1) rfl rfl rfl ?_
  refine pa_c (M' := ab_M_X10_in) (A := [.long (Int32.toInt64 l), .long 0, .long 2]) (rest := []) rfl rfl rfl rfl (in_run d h1) (fun r h2 hp => ?_)
  obtain ⟨rfl, hp⟩ := hp
  rw [sh_il, show (0 : Int64).toInt = 0 from rfl, show (2 : Int64).toInt = 2 from rfl] at hp
  rcases hp with ⟨rfl, l1, l2⟩ | ⟨rfl, hl⟩
  rotate_left
  · refine pa_ift (off := 9) (tgt := 30) rfl rfl (by decide) ?_
    exact no _ (fun z => hl z.2.1)
  refine pa_iff rfl (by decide) ?_
  refine pa_s (pc' := 25) (lv' := [(0, .ref 82), (1, .int k), (2, .int l), (3, .int n)]) (st' := [.int n]) (h' := h2) rfl rfl rfl ?_
  refine pa_s (pc' := 27) (lv' := [(0, .ref 82), (1, .int k), (2, .int l), (3, .int n)]) (st' := [.int 64, .int n]) (h' := h2) rfl rfl rfl ?_
  refine pa_ic (c := .le) (off := 5) (tgt := 32) rfl rfl (fun n2 => ?_) (fun n2 => ?_)
  rotate_left
  · have n2 : ¬ n.toInt ≤ 64 := n2
    exact no _ (fun z => n2 z.2.2.2)
  have n2 : n.toInt ≤ 64 := n2
  refine pa_s (pc' := 33) (lv' := [(0, .ref 82), (1, .int k), (2, .int l), (3, .int n)]) (st' := [.int n]) (h' := h2) rfl rfl rfl ?_
  refine pa_if (c := .ge) (off := 6) (tgt := 39) rfl rfl (fun n1 => ?_) (fun n1 => ?_)
  rotate_left
  · have n1 : ¬ 0 ≤ n.toInt := n1
    refine pa_s (pc' := 38) (lv' := [(0, .ref 82), (1, .int k), (2, .int l), (3, .int n)]) (st' := [.int (-14)]) (h' := h2) rfl rfl rfl ?_
    exact px_ret (x := -14) rfl rfl (fun q hq => by cases hq; rfl) (Or.inr ⟨fun z => n1 z.2.2.1, m⟩)
  have n1 : 0 ≤ n.toInt := n1
  obtain ⟨m1, m2, m3, mc, m4⟩ := m
  refine pa_s (pc' := 40) (lv' := [(0, .ref 82), (1, .int k), (2, .int l), (3, .int n)]) (st' := [.ref 82]) (h' := h2) rfl rfl rfl ?_
  refine pa_get (ci := 10) (k := 67) rfl m1 hq.1 ?_
  refine pa_s (pc' := 44) (lv' := [(0, .ref 82), (1, .int k), (2, .int l), (3, .int n)]) (st' := [.int k, .ref 117]) (h' := h2) rfl rfl rfl ?_
  refine pa_s (pc' := 45) (lv' := [(0, .ref 82), (1, .int k), (2, .int l), (3, .int n)]) (st' := [.int l, .int k, .ref 117]) (h' := h2) rfl rfl rfl ?_
  refine px_ias rfl m2 (by decide) (fun _ => ?_)
  have a1 := (ab_rd_other (h := h2) (a := 117) (e := .inl (0, 4, .inl (upd la k.toNatClampNeg l))) (show 82 ≠ 117 by decide)).trans m1
  have a2 := ab_rd_self (h := h2) (a := 117) (e := .inl (0, 4, .inl (upd la k.toNatClampNeg l))) (ab_rd_of m2).1
  have a3 := (ab_rd_other (h := h2) (a := 117) (e := .inl (0, 4, .inl (upd la k.toNatClampNeg l))) (show 118 ≠ 117 by decide)).trans m3
  have a4 := (ab_rd_other (h := h2) (a := 117) (e := .inl (0, 4, .inl (upd la k.toNatClampNeg l))) (show 119 ≠ 117 by decide)).trans m4
  generalize ab_wr h2 117 (.inl (0, 4, .inl (upd la k.toNatClampNeg l))) = h3 at a1 a2 a3 a4 ⊢
  refine pa_s (pc' := 47) (lv' := [(0, .ref 82), (1, .int k), (2, .int l), (3, .int n)]) (st' := [.ref 82]) (h' := h3) rfl rfl rfl ?_
  refine pa_get (ci := 10) (k := 68) rfl a1 hq.2.1 ?_
  refine pa_s (pc' := 51) (lv' := [(0, .ref 82), (1, .int k), (2, .int l), (3, .int n)]) (st' := [.int k, .ref 118]) (h' := h3) rfl rfl rfl ?_
  refine pa_s (pc' := 52) (lv' := [(0, .ref 82), (1, .int k), (2, .int l), (3, .int n)]) (st' := [.int n, .int k, .ref 118]) (h' := h3) rfl rfl rfl ?_
  refine px_ias rfl a3 (by decide) (fun _ => ?_)
  have b1 := (ab_rd_other (h := h3) (a := 118) (e := .inl (0, 4, .inl (upd le k.toNatClampNeg n))) (show 82 ≠ 118 by decide)).trans a1
  have b2 := (ab_rd_other (h := h3) (a := 118) (e := .inl (0, 4, .inl (upd le k.toNatClampNeg n))) (show 117 ≠ 118 by decide)).trans a2
  have b3 := ab_rd_self (h := h3) (a := 118) (e := .inl (0, 4, .inl (upd le k.toNatClampNeg n))) (ab_rd_of a3).1
  have b4 := (ab_rd_other (h := h3) (a := 118) (e := .inl (0, 4, .inl (upd le k.toNatClampNeg n))) (show 119 ≠ 118 by decide)).trans a4
  generalize ab_wr h3 118 (.inl (0, 4, .inl (upd le k.toNatClampNeg n))) = h4 at b1 b2 b3 b4 ⊢
  refine pa_s (pc' := 54) (lv' := [(0, .ref 82), (1, .int k), (2, .int l), (3, .int n)]) (st' := [.int 0]) (h' := h4) rfl rfl rfl ?_
  refine pa_s (pc' := 56) (lv' := [(4, .int 0), (0, .ref 82), (1, .int k), (2, .int l), (3, .int n)]) (st' := []) (h' := h4) rfl rfl rfl ?_
  exact ms_56 hq (fun h5 m5 => Or.inl ⟨⟨⟨k1, k2⟩, ⟨l1, l2⟩, n1, n2⟩, m5⟩) N h4 _ 0 ⟨b1, b2, b3, mc, b4⟩ rfl rfl rfl
end SH1
