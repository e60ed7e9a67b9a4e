/-! ===== what a run says if it ends ===== -/
def ab_pa (N d : Nat) (M : ab_M) (pc : Nat) (lv : ab_L) (st : List Value) (h : ab_H) (Q : Option Value → ab_H → Prop) : Prop := ∀ n, n ≤ N → ∀ r h', ab_ex ab_G n d M pc lv st h = some (r, h') → Q r h'
section PA
variable {N d : Nat} {M M' : ab_M} {pc pc' tgt : Nat} {lv lv' lv0 : ab_L} {st st' rest A : List Value} {h h' : ab_H} {Q Q' : Option Value → ab_H → Prop} {it : ab_I}
theorem pa_zero : ab_pa 0 d M pc lv st h Q := fun n hn r g hx => by
  obtain rfl : n = 0 := by omega
  cases hx
theorem pa_lt (h1 : ab_at M.2.2.2.2.2 pc = some it) (h2 : ab_kd it = 0) (h3 : ab_sp M.2.2.1 it pc lv st h = some (pc', lv', st', h')) (k : ab_pa N d M pc' lv' st' h' Q) : ab_pa (N + 1) d M pc lv st h Q := fun n hn r g hx => by
  cases n with
  | zero => cases hx
  | succ n =>
    unfold ab_ex at hx
    simp only [h1, h2, h3] at hx
    exact k n (by omega) r g hx
theorem pa_s (h1 : ab_at M.2.2.2.2.2 pc = some it) (h2 : ab_kd it = 0) (h3 : ab_sp M.2.2.1 it pc lv st h = some (pc', lv', st', h')) (k : ab_pa N d M pc' lv' st' h' Q) : ab_pa N d M pc lv st h Q := fun n hn => pa_lt h1 h2 h3 k n (by omega)
theorem pa_go {P : Option Value → ab_H → Prop} (g : ab_go d M pc lv st h P) (k : ∀ N, ab_pa N d M pc lv st h Q) : ab_go d M pc lv st h (fun r h' => P r h' ∧ Q r h') := by
  obtain ⟨n, r, g, hx, hp⟩ := g
  exact ⟨n, r, g, hx, hp, k n n (Nat.le_refl _) r g hx⟩
theorem pa_ret {v : Option Value} (h1 : ab_at M.2.2.2.2.2 pc = some it) (h2 : ab_kd it = 1) (h3 : ab_rt M it st h = some (v, h)) (k : Q v h) : ab_pa N d M pc lv st h Q := fun n hn r g hx => by
  cases n with
  | zero => cases hx
  | succ n =>
    unfold ab_ex at hx
    simp only [h1, h2, h3] at hx
    cases hx
    exact k
theorem pa_c (h1 : ab_at M.2.2.2.2.2 pc = some it) (h2 : ab_kd it = 2) (h3 : ab_cal ab_G it st h = some (M', A, rest)) (hl : lv_args 0 A = lv0) (k1 : ab_go d M' 0 lv0 [] h Q') (k2 : ∀ r h', Q' r h' → ab_pa N (d + 1) M (pc + 3) lv (r.toList ++ rest) h' Q) : ab_pa N (d + 1) M pc lv st h Q := fun n hn r g hx => by
  subst hl
  cases n with
  | zero => cases hx
  | succ n =>
    obtain ⟨n1, r1, g1, hx1, hq1⟩ := k1
    unfold ab_ex at hx
    simp only [h1, h2, h3] at hx
    cases e : ab_ex ab_G n d M' 0 (lv_args 0 A) [] h with
    | none => rw [e] at hx; cases hx
    | some q =>
      rw [e] at hx
      have e1 := ab_ex_fuel n1 hx1 n
      have e2 := ab_ex_fuel n e n1
      rw [Nat.add_comm n n1, e1] at e2
      cases e2
      exact k2 r1 g1 hq1 n (by omega) r g hx
theorem pa_goto {off : Int} (h1 : ab_at M.2.2.2.2.2 pc = some (ab_r (.goto off) 3)) (ht : (pc : Int) + off = (tgt : Int)) (k : ab_pa N d M tgt lv st h Q) : ab_pa N d M pc lv st h Q := pa_s h1 rfl (show ab_jp pc off lv st h = _ from ab_jp_t ht) k
theorem pa_ift {c : ClassFile.Cond} {off : Int} {x : Int32} (h1 : ab_at M.2.2.2.2.2 pc = some (ab_r (.ifCond c off) 3)) (ht : (pc : Int) + off = (tgt : Int)) (hc : ab_cd c x 0 = true) (k : ab_pa N d M tgt lv st h Q) : ab_pa N d M pc lv (.int x :: st) h Q := pa_s h1 rfl (show (if ab_cd c x 0 = true then ab_jp pc off lv st h else some (pc + 3, lv, st, h)) = _ by rw [if_pos hc]; exact ab_jp_t ht) k
theorem pa_iff {c : ClassFile.Cond} {off : Int} {x : Int32} (h1 : ab_at M.2.2.2.2.2 pc = some (ab_r (.ifCond c off) 3)) (hc : ¬ ab_cd c x 0 = true) (k : ab_pa N d M (pc + 3) lv st h Q) : ab_pa N d M pc lv (.int x :: st) h Q := pa_s h1 rfl (show (if ab_cd c x 0 = true then ab_jp pc off lv st h else some (pc + 3, lv, st, h)) = _ by rw [if_neg hc]) k
theorem pa_ict {c : ClassFile.Cond} {off : Int} {x y : Int32} (h1 : ab_at M.2.2.2.2.2 pc = some (ab_r (.if_icmp c off) 3)) (ht : (pc : Int) + off = (tgt : Int)) (hc : ab_cd c x y = true) (k : ab_pa N d M tgt lv st h Q) : ab_pa N d M pc lv (.int y :: .int x :: st) h Q := pa_s h1 rfl (show (if ab_cd c x y = true then ab_jp pc off lv st h else some (pc + 3, lv, st, h)) = _ by rw [if_pos hc]; exact ab_jp_t ht) k
theorem pa_icf {c : ClassFile.Cond} {off : Int} {x y : Int32} (h1 : ab_at M.2.2.2.2.2 pc = some (ab_r (.if_icmp c off) 3)) (hc : ¬ ab_cd c x y = true) (k : ab_pa N d M (pc + 3) lv st h Q) : ab_pa N d M pc lv (.int y :: .int x :: st) h Q := pa_s h1 rfl (show (if ab_cd c x y = true then ab_jp pc off lv st h else some (pc + 3, lv, st, h)) = _ by rw [if_neg hc]) k
theorem pa_if {c : ClassFile.Cond} {off : Int} {x : Int32} (h1 : ab_at M.2.2.2.2.2 pc = some (ab_r (.ifCond c off) 3)) (ht : (pc : Int) + off = (tgt : Int)) (kt : ab_ci c x.toInt 0 → ab_pa N d M tgt lv st h Q) (kf : ¬ ab_ci c x.toInt 0 → ab_pa N d M (pc + 3) lv st h Q) : ab_pa N d M pc lv (.int x :: st) h Q := by
  by_cases hc : ab_cd c x 0 = true
  · exact pa_ift h1 ht hc (kt ((ab_cd_i c x 0).mp hc))
  · exact pa_iff h1 hc (kf (fun q => hc ((ab_cd_i c x 0).mpr q)))
theorem pa_ifl {c : ClassFile.Cond} {off : Int} {x y : Int64} (h1 : ab_at M.2.2.2.2.2 pc = some (ab_r (.ifCond c off) 3)) (ht : (pc : Int) + off = (tgt : Int)) (kt : ab_ci c x.toInt y.toInt → ab_pa N d M tgt lv st h Q) (kf : ¬ ab_ci c x.toInt y.toInt → ab_pa N d M (pc + 3) lv st h Q) : ab_pa N d M pc lv (.int (lg_cmp x y) :: st) h Q := by
  by_cases hc : ab_cd c (lg_cmp x y) 0 = true
  · exact pa_ift h1 ht hc (kt ((ab_cd_l c x y).mp hc))
  · exact pa_iff h1 hc (kf (fun q => hc ((ab_cd_l c x y).mpr q)))
theorem pa_ic {c : ClassFile.Cond} {off : Int} {x y : Int32} (h1 : ab_at M.2.2.2.2.2 pc = some (ab_r (.if_icmp c off) 3)) (ht : (pc : Int) + off = (tgt : Int)) (kt : ab_ci c x.toInt y.toInt → ab_pa N d M tgt lv st h Q) (kf : ¬ ab_ci c x.toInt y.toInt → ab_pa N d M (pc + 3) lv st h Q) : ab_pa N d M pc lv (.int y :: .int x :: st) h Q := by
  by_cases hc : ab_cd c x y = true
  · exact pa_ict h1 ht hc (kt ((ab_cd_i c x y).mp hc))
  · exact pa_icf h1 hc (kf (fun q => hc ((ab_cd_i c x y).mpr q)))
theorem pa_get {i ci k ix a : Nat} {fs : List Value} {v : Value} (h1 : ab_at M.2.2.2.2.2 pc = some (ab_f (.getfield i) ci k ix)) (hr : ab_rd h a = some (.inr (ci, fs))) (hv : fs[k]? = some v) (kk : ab_pa N d M (pc + 3) lv (v :: st) h Q) (hc : ci ≠ 20 := by decide) : ab_pa N d M pc lv (.ref a :: st) h Q := by
  refine pa_s h1 rfl (show (if ci = 20 then ab_gx k pc lv (.ref a :: st) h else ab_get ci k pc lv (.ref a :: st) h) = _ from ?_) kk
  rw [if_neg hc]
  unfold ab_get
  simp only [hr, if_pos, hv]
theorem pa_put {i ci k ix a : Nat} {fs : List Value} {v : Value} (h1 : ab_at M.2.2.2.2.2 pc = some (ab_f (.putfield i) ci k ix)) (hr : ab_rd h a = some (.inr (ci, fs))) (hk : k < fs.length) (hf : ab_fit (ab_ty ci k) v = true) (kk : ab_pa N d M (pc + 3) lv st (ab_wr h a (.inr (ci, fs.set k v))) Q) : ab_pa N d M pc lv (v :: .ref a :: st) h Q := by
  refine pa_s h1 rfl (show ab_put ci k pc lv (v :: .ref a :: st) h = _ from ?_) kk
  unfold ab_put
  simp only [hr]
  rw [if_pos ⟨trivial, hk, hf⟩]
theorem pa_ial {a n : Nat} {f : Nat → Int32} {i v : Int32} (h1 : ab_at M.2.2.2.2.2 pc = some (ab_r .iaload 1)) (hr : ab_rd h a = some (.inl (0, n, .inl f))) (hi : ab_in i n = true) (hv : f i.toNatClampNeg = v) (kk : ab_pa N d M (pc + 1) lv (.int v :: st) h Q) : ab_pa N d M pc lv (.int i :: .ref a :: st) h Q := by
  refine pa_s h1 rfl (show ab_ial pc lv (.int i :: .ref a :: st) h = _ from ?_) kk
  unfold ab_ial
  simp only [hr, if_pos hi, hv]
theorem pa_ias {a n : Nat} {f : Nat → Int32} {i x : Int32} (h1 : ab_at M.2.2.2.2.2 pc = some (ab_r .iastore 1)) (hr : ab_rd h a = some (.inl (0, n, .inl f))) (hi : ab_in i n = true) (ha : a ≠ 0) (kk : ab_pa N d M (pc + 1) lv st (ab_wr h a (.inl (0, n, .inl (upd f i.toNatClampNeg x)))) Q) : ab_pa N d M pc lv (.int x :: .int i :: .ref a :: st) h Q := by
  refine pa_s h1 rfl (show ab_ias pc lv (.int x :: .int i :: .ref a :: st) h = _ from ?_) kk
  unfold ab_ias
  simp only [hr]
  rw [if_pos ⟨hi, ha⟩]
theorem pa_bas {a n : Nat} {f : Nat → Int32} {i x : Int32} (h1 : ab_at M.2.2.2.2.2 pc = some (ab_r .bastore 1)) (hr : ab_rd h a = some (.inl (1, n, .inl f))) (hi : ab_in i n = true) (ha : a ≠ 0) (kk : ab_pa N d M (pc + 1) lv st (ab_wr h a (.inl (1, n, .inl (upd f i.toNatClampNeg (vp_nar .byte x))))) Q) : ab_pa N d M pc lv (.int x :: .int i :: .ref a :: st) h Q := by
  refine pa_s h1 rfl (show ab_bas pc lv (.int x :: .int i :: .ref a :: st) h = _ from ?_) kk
  unfold ab_bas
  simp only [hr]
  rw [if_pos ⟨hi, ha⟩]
end PA
