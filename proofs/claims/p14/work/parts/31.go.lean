/-! ===== rows for runs of the abstract machine, goal first ===== -/
def ab_go (d : Nat) (M : ab_M) (pc : Nat) (lv : ab_L) (st : List Value) (h : ab_H) (Q : Option Value → ab_H → Prop) : Prop := ∃ n r hF, ab_ex ab_G n d M pc lv st h = some (r, hF) ∧ Q r hF
def ab_ci (c : ClassFile.Cond) (a b : Int) : Prop := match c with
  | .eq => a = b
  | .ne => ¬ a = b
  | .lt => a < b
  | .ge => b ≤ a
  | .gt => b < a
  | .le => a ≤ b
theorem ab_cd_i (c : ClassFile.Cond) (x y : Int32) : ab_cd c x y = true ↔ ab_ci c x.toInt y.toInt := by
  cases c <;> simp [ab_cd, ab_ci, Int32.lt_iff_toInt_lt, Int32.le_iff_toInt_le, ← Int32.toInt_inj]
theorem ab_cd_l (c : ClassFile.Cond) (x y : Int64) : ab_cd c (lg_cmp x y) 0 = true ↔ ab_ci c x.toInt y.toInt := by
  unfold lg_cmp
  by_cases h1 : x > y
  · rw [if_pos h1]
    have h1 : y.toInt < x.toInt := Int64.lt_iff_toInt_lt.mp h1
    cases c <;> simp [ab_cd, ab_ci] <;> omega
  · rw [if_neg h1]
    have h1 : ¬ y.toInt < x.toInt := fun q => h1 (Int64.lt_iff_toInt_lt.mpr q)
    by_cases h2 : x = y
    · rw [if_pos h2]
      subst h2
      cases c <;> simp [ab_cd, ab_ci]
    · rw [if_neg h2]
      have h2 : ¬ x.toInt = y.toInt := fun q => h2 (Int64.toInt_inj.mp q)
      cases c <;> simp [ab_cd, ab_ci] <;> omega
section GO
variable {d : Nat} {M M' : ab_M} {pc pc' tgt : Nat} {lv lv' lv0 : ab_L} {st st' rest A : List Value} {h h' : ab_H} {Q Q' : Option Value → ab_H → Prop} {it : ab_I}
theorem go_s (h1 : ab_at M.2.2.2.2.2 pc = some it) (h2 : ab_kd it = 0) (h3 : ab_sp M.2.2.1 it pc lv st h = some (pc', lv', st', h')) (k : ab_go d M pc' lv' st' h' Q) : ab_go d M pc lv st h Q := by
  obtain ⟨n, r, hF, hx, hq⟩ := k
  refine ⟨n + 1, r, hF, ?_, hq⟩
  unfold ab_ex
  simp only [h1, h2, h3]
  exact hx
theorem go_iconst {n : Int} {v : Int32} (h1 : ab_at M.2.2.2.2.2 pc = some (ab_r (.iconst n) 1)) (hv : Int32.ofInt n = v) (k : ab_go d M (pc + 1) lv (.int v :: st) h Q) : ab_go d M pc lv st h Q := go_s h1 rfl (by rw [← hv]; rfl) k
theorem go_bipush {n : Int} {v : Int32} (h1 : ab_at M.2.2.2.2.2 pc = some (ab_r (.bipush n) 2)) (hv : (Int8.ofInt n).toInt32 = v) (k : ab_go d M (pc + 2) lv (.int v :: st) h Q) : ab_go d M pc lv st h Q := go_s h1 rfl (by rw [← hv]; rfl) k
theorem go_sipush {n : Int} {v : Int32} (h1 : ab_at M.2.2.2.2.2 pc = some (ab_r (.sipush n) 3)) (hv : (Int16.ofInt n).toInt32 = v) (k : ab_go d M (pc + 3) lv (.int v :: st) h Q) : ab_go d M pc lv st h Q := go_s h1 rfl (by rw [← hv]; rfl) k
theorem go_lconst {n : Fin 2} {v : Int64} (h1 : ab_at M.2.2.2.2.2 pc = some (ab_r (.lconst n) 1)) (hv : Int64.ofNat (n : Nat) = v) (k : ab_go d M (pc + 1) lv (.long v :: st) h Q) : ab_go d M pc lv st h Q := go_s h1 rfl (by rw [← hv]; rfl) k
theorem go_ldc {i : Nat} {n : Int} {ix : Nat} {v : Int32} (h1 : ab_at M.2.2.2.2.2 pc = some (ab_n (.ldc i) 2 n ix)) (hv : Int32.ofInt n = v) (k : ab_go d M (pc + 2) lv (.int v :: st) h Q) : ab_go d M pc lv st h Q := go_s h1 rfl (by rw [← hv]; rfl) k
theorem go_ldc2 {i : Nat} {n : Int} {ix : Nat} {v : Int64} (h1 : ab_at M.2.2.2.2.2 pc = some (ab_n (.ldc2_w i) 3 n ix)) (hv : Int64.ofInt n = v) (k : ab_go d M (pc + 3) lv (.long v :: st) h Q) : ab_go d M pc lv st h Q := go_s h1 rfl (by rw [← hv]; rfl) k
theorem go_b2 {f : Int32 → Int32 → Int32} {x y v : Int32} (h1 : ab_at M.2.2.2.2.2 pc = some it) (h2 : ab_kd it = 0) (h3 : ∀ st, ab_sp M.2.2.1 it pc lv st h = ab_b2 f pc lv st h) (hv : f x y = v) (k : ab_go d M (pc + 1) lv (.int v :: st) h Q) : ab_go d M pc lv (.int y :: .int x :: st) h Q := go_s h1 h2 ((h3 _).trans (by rw [← hv]; rfl)) k
theorem go_b1 {f : Int32 → Int32} {x v : Int32} (h1 : ab_at M.2.2.2.2.2 pc = some it) (h2 : ab_kd it = 0) (h3 : ∀ st, ab_sp M.2.2.1 it pc lv st h = ab_b1 f pc lv st h) (hv : f x = v) (k : ab_go d M (pc + 1) lv (.int v :: st) h Q) : ab_go d M pc lv (.int x :: st) h Q := go_s h1 h2 ((h3 _).trans (by rw [← hv]; rfl)) k
theorem go_l2 {f : Int64 → Int64 → Int64} {x y v : Int64} (h1 : ab_at M.2.2.2.2.2 pc = some it) (h2 : ab_kd it = 0) (h3 : ∀ st, ab_sp M.2.2.1 it pc lv st h = ab_l2 f pc lv st h) (hv : f x y = v) (k : ab_go d M (pc + 1) lv (.long v :: st) h Q) : ab_go d M pc lv (.long y :: .long x :: st) h Q := go_s h1 h2 ((h3 _).trans (by rw [← hv]; rfl)) k
theorem go_ls {f : Int64 → Int32 → Int64} {x v : Int64} {y : Int32} (h1 : ab_at M.2.2.2.2.2 pc = some it) (h2 : ab_kd it = 0) (h3 : ∀ st, ab_sp M.2.2.1 it pc lv st h = ab_ls f pc lv st h) (hv : f x y = v) (k : ab_go d M (pc + 1) lv (.long v :: st) h Q) : ab_go d M pc lv (.int y :: .long x :: st) h Q := go_s h1 h2 ((h3 _).trans (by rw [← hv]; rfl)) k
theorem go_lc {x y : Int64} {v : Int32} (h1 : ab_at M.2.2.2.2.2 pc = some (ab_r .lcmp 1)) (hv : lg_cmp x y = v) (k : ab_go d M (pc + 1) lv (.int v :: st) h Q) : ab_go d M pc lv (.long y :: .long x :: st) h Q := go_s h1 rfl (by rw [← hv]; rfl) k
theorem go_i2l {x : Int32} {v : Int64} (h1 : ab_at M.2.2.2.2.2 pc = some (ab_r .i2l 1)) (hv : x.toInt64 = v) (k : ab_go d M (pc + 1) lv (.long v :: st) h Q) : ab_go d M pc lv (.int x :: st) h Q := go_s h1 rfl (by rw [← hv]; rfl) k
theorem go_l2i {x : Int64} {v : Int32} (h1 : ab_at M.2.2.2.2.2 pc = some (ab_r .l2i 1)) (hv : x.toInt32 = v) (k : ab_go d M (pc + 1) lv (.int v :: st) h Q) : ab_go d M pc lv (.long x :: st) h Q := go_s h1 rfl (by rw [← hv]; rfl) k
theorem ab_jp_t {off : Int} (ht : (pc : Int) + off = (tgt : Int)) : ab_jp pc off lv st h = some (tgt, lv, st, h) := by
  unfold ab_jp
  rw [if_pos (by omega), ht]
  rfl
theorem go_goto {off : Int} (h1 : ab_at M.2.2.2.2.2 pc = some (ab_r (.goto off) 3)) (ht : (pc : Int) + off = (tgt : Int)) (k : ab_go d M tgt lv st h Q) : ab_go d M pc lv st h Q := go_s h1 rfl (show ab_jp pc off lv st h = _ from ab_jp_t ht) k
theorem go_ift {c : ClassFile.Cond} {off : Int} {x : Int32} (h1 : ab_at M.2.2.2.2.2 pc = some (ab_r (.ifCond c off) 3)) (ht : (pc : Int) + off = (tgt : Int)) (hc : ab_cd c x 0 = true) (k : ab_go d M tgt lv st h Q) : ab_go d M pc lv (.int x :: st) h Q := go_s h1 rfl (show (if ab_cd c x 0 = true then ab_jp pc off lv st h else some (pc + 3, lv, st, h)) = _ by rw [if_pos hc]; exact ab_jp_t ht) k
theorem go_iff {c : ClassFile.Cond} {off : Int} {x : Int32} (h1 : ab_at M.2.2.2.2.2 pc = some (ab_r (.ifCond c off) 3)) (hc : ¬ ab_cd c x 0 = true) (k : ab_go d M (pc + 3) lv st h Q) : ab_go d M pc lv (.int x :: st) h Q := go_s h1 rfl (show (if ab_cd c x 0 = true then ab_jp pc off lv st h else some (pc + 3, lv, st, h)) = _ by rw [if_neg hc]) k
theorem go_ict {c : ClassFile.Cond} {off : Int} {x y : Int32} (h1 : ab_at M.2.2.2.2.2 pc = some (ab_r (.if_icmp c off) 3)) (ht : (pc : Int) + off = (tgt : Int)) (hc : ab_cd c x y = true) (k : ab_go d M tgt lv st h Q) : ab_go d M pc lv (.int y :: .int x :: st) h Q := go_s h1 rfl (show (if ab_cd c x y = true then ab_jp pc off lv st h else some (pc + 3, lv, st, h)) = _ by rw [if_pos hc]; exact ab_jp_t ht) k
theorem go_icf {c : ClassFile.Cond} {off : Int} {x y : Int32} (h1 : ab_at M.2.2.2.2.2 pc = some (ab_r (.if_icmp c off) 3)) (hc : ¬ ab_cd c x y = true) (k : ab_go d M (pc + 3) lv st h Q) : ab_go d M pc lv (.int y :: .int x :: st) h Q := go_s h1 rfl (show (if ab_cd c x y = true then ab_jp pc off lv st h else some (pc + 3, lv, st, h)) = _ by rw [if_neg hc]) k
theorem go_if {c : ClassFile.Cond} {off : Int} {x : Int32} (h1 : ab_at M.2.2.2.2.2 pc = some (ab_r (.ifCond c off) 3)) (ht : (pc : Int) + off = (tgt : Int)) (kt : ab_ci c x.toInt 0 → ab_go d M tgt lv st h Q) (kf : ¬ ab_ci c x.toInt 0 → ab_go d M (pc + 3) lv st h Q) : ab_go d M pc lv (.int x :: st) h Q := by
  by_cases hc : ab_cd c x 0 = true
  · exact go_ift h1 ht hc (kt ((ab_cd_i c x 0).mp hc))
  · exact go_iff h1 hc (kf (fun q => hc ((ab_cd_i c x 0).mpr q)))
theorem go_ifl {c : ClassFile.Cond} {off : Int} {x y : Int64} (h1 : ab_at M.2.2.2.2.2 pc = some (ab_r (.ifCond c off) 3)) (ht : (pc : Int) + off = (tgt : Int)) (kt : ab_ci c x.toInt y.toInt → ab_go d M tgt lv st h Q) (kf : ¬ ab_ci c x.toInt y.toInt → ab_go d M (pc + 3) lv st h Q) : ab_go d M pc lv (.int (lg_cmp x y) :: st) h Q := by
  by_cases hc : ab_cd c (lg_cmp x y) 0 = true
  · exact go_ift h1 ht hc (kt ((ab_cd_l c x y).mp hc))
  · exact go_iff h1 hc (kf (fun q => hc ((ab_cd_l c x y).mpr q)))
theorem go_ic {c : ClassFile.Cond} {off : Int} {x y : Int32} (h1 : ab_at M.2.2.2.2.2 pc = some (ab_r (.if_icmp c off) 3)) (ht : (pc : Int) + off = (tgt : Int)) (kt : ab_ci c x.toInt y.toInt → ab_go d M tgt lv st h Q) (kf : ¬ ab_ci c x.toInt y.toInt → ab_go d M (pc + 3) lv st h Q) : ab_go d M pc lv (.int y :: .int x :: st) h Q := by
  by_cases hc : ab_cd c x y = true
  · exact go_ict h1 ht hc (kt ((ab_cd_i c x y).mp hc))
  · exact go_icf h1 hc (kf (fun q => hc ((ab_cd_i c x y).mpr q)))
theorem go_tin {df lo hi off : Int} {offs : Array Int} {len : Nat} {x : Int32} (j : Int) (h1 : ab_at M.2.2.2.2.2 pc = some (ab_r (.tableswitch df lo hi offs) len)) (hx : x.toInt = j) (hj : ¬ (j < lo ∨ hi < j)) (ho : offs[(j - lo).toNat]? = some off) (ht : (pc : Int) + off = (tgt : Int)) (k : ab_go d M tgt lv st h Q) : ab_go d M pc lv (.int x :: st) h Q := by
  refine go_s h1 rfl (show ab_tsw df lo hi offs pc lv (.int x :: st) h = _ from ?_) k
  unfold ab_tsw
  dsimp only
  rw [hx, if_neg hj, ho]
  exact ab_jp_t ht
theorem go_tout {df lo hi : Int} {offs : Array Int} {len : Nat} {x : Int32} (h1 : ab_at M.2.2.2.2.2 pc = some (ab_r (.tableswitch df lo hi offs) len)) (hx : x.toInt < lo ∨ hi < x.toInt) (ht : (pc : Int) + df = (tgt : Int)) (k : ab_go d M tgt lv st h Q) : ab_go d M pc lv (.int x :: st) h Q := by
  refine go_s h1 rfl (show ab_tsw df lo hi offs pc lv (.int x :: st) h = _ from ?_) k
  unfold ab_tsw
  dsimp only
  rw [if_pos hx]
  exact ab_jp_t ht
theorem go_get {i ci k ix a : Nat} {fs : List Value} {v : Value} (h1 : ab_at M.2.2.2.2.2 pc = some (ab_f (.getfield i) ci k ix)) (hr : ab_rd h a = some (.inr (ci, fs))) (hv : fs[k]? = some v) (kk : ab_go d M (pc + 3) lv (v :: st) h Q) (hc : ci ≠ 20 := by decide) : ab_go d M pc lv (.ref a :: st) h Q := by
  refine go_s h1 rfl (show (if ci = 20 then ab_gx k pc lv (.ref a :: st) h else ab_get ci k pc lv (.ref a :: st) h) = _ from ?_) kk
  rw [if_neg hc]
  unfold ab_get
  simp only [hr, if_pos, hv]
theorem go_put {i ci k ix a : Nat} {fs : List Value} {v : Value} (h1 : ab_at M.2.2.2.2.2 pc = some (ab_f (.putfield i) ci k ix)) (hr : ab_rd h a = some (.inr (ci, fs))) (hk : k < fs.length) (hf : ab_fit (ab_ty ci k) v = true) (kk : ab_go d M (pc + 3) lv st (ab_wr h a (.inr (ci, fs.set k v))) Q) : ab_go d M pc lv (v :: .ref a :: st) h Q := by
  refine go_s h1 rfl (show ab_put ci k pc lv (v :: .ref a :: st) h = _ from ?_) kk
  unfold ab_put
  simp only [hr]
  rw [if_pos ⟨trivial, hk, hf⟩]
theorem go_ial {a n : Nat} {f : Nat → Int32} {i v : Int32} (h1 : ab_at M.2.2.2.2.2 pc = some (ab_r .iaload 1)) (hr : ab_rd h a = some (.inl (0, n, .inl f))) (hi : ab_in i n = true) (hv : f i.toNatClampNeg = v) (kk : ab_go d M (pc + 1) lv (.int v :: st) h Q) : ab_go d M pc lv (.int i :: .ref a :: st) h Q := by
  refine go_s h1 rfl (show ab_ial pc lv (.int i :: .ref a :: st) h = _ from ?_) kk
  unfold ab_ial
  simp only [hr, if_pos hi, hv]
theorem go_aal {a n : Nat} {f : Nat → Option Nat} {i : Int32} {v : Value} (h1 : ab_at M.2.2.2.2.2 pc = some (ab_r .aaload 1)) (hr : ab_rd h a = some (.inl (4, n, .inr (.inr f)))) (hi : ab_in i n = true) (hv : va_rf (f i.toNatClampNeg) = v) (kk : ab_go d M (pc + 1) lv (v :: st) h Q) : ab_go d M pc lv (.int i :: .ref a :: st) h Q := by
  refine go_s h1 rfl (show ab_aal pc lv (.int i :: .ref a :: st) h = _ from ?_) kk
  unfold ab_aal
  simp only [hr, if_pos hi, hv]
theorem go_len {a n t : Nat} {f : ab_C} {v : Int32} (h1 : ab_at M.2.2.2.2.2 pc = some (ab_r .arraylength 1)) (hr : ab_rd h a = some (.inl (t, n, f))) (ht : t < 5) (hv : Int32.ofNat n = v) (kk : ab_go d M (pc + 1) lv (.int v :: st) h Q) : ab_go d M pc lv (.ref a :: st) h Q := by
  refine go_s h1 rfl (show ab_len pc lv (.ref a :: st) h = _ from ?_) kk
  unfold ab_len
  simp only [hr, if_pos ht, hv]
theorem go_ias {a n : Nat} {f : Nat → Int32} {i x : Int32} (h1 : ab_at M.2.2.2.2.2 pc = some (ab_r .iastore 1)) (hr : ab_rd h a = some (.inl (0, n, .inl f))) (hi : ab_in i n = true) (ha : a ≠ 0) (kk : ab_go d M (pc + 1) lv st (ab_wr h a (.inl (0, n, .inl (upd f i.toNatClampNeg x)))) Q) : ab_go d M pc lv (.int x :: .int i :: .ref a :: st) h Q := by
  refine go_s h1 rfl (show ab_ias pc lv (.int x :: .int i :: .ref a :: st) h = _ from ?_) kk
  unfold ab_ias
  simp only [hr]
  rw [if_pos ⟨hi, ha⟩]
theorem go_bas {a n : Nat} {f : Nat → Int32} {i x : Int32} (h1 : ab_at M.2.2.2.2.2 pc = some (ab_r .bastore 1)) (hr : ab_rd h a = some (.inl (1, n, .inl f))) (hi : ab_in i n = true) (ha : a ≠ 0) (kk : ab_go d M (pc + 1) lv st (ab_wr h a (.inl (1, n, .inl (upd f i.toNatClampNeg (vp_nar .byte x))))) Q) : ab_go d M pc lv (.int x :: .int i :: .ref a :: st) h Q := by
  refine go_s h1 rfl (show ab_bas pc lv (.int x :: .int i :: .ref a :: st) h = _ from ?_) kk
  unfold ab_bas
  simp only [hr]
  rw [if_pos ⟨hi, ha⟩]
theorem go_ri {v : Int32} (h1 : ab_at M.2.2.2.2.2 pc = some (ab_r .ireturn 1)) (hr : M.2.2.2.1 = some .int) (k : Q (some (.int v)) h) : ab_go d M pc lv [.int v] h Q := by
  refine ⟨1, _, _, ?_, k⟩
  unfold ab_ex
  simp only [h1]
  show ab_rt M (ab_r .ireturn 1) [.int v] h = _
  unfold ab_rt
  simp only [ab_r, hr]
  exact if_pos rfl
theorem go_rz {v : Int32} (h1 : ab_at M.2.2.2.2.2 pc = some (ab_r .ireturn 1)) (hr : M.2.2.2.1 = some .boolean) (hn : narrow .boolean (.int v) = .int v) (k : Q (some (.int v)) h) : ab_go d M pc lv [.int v] h Q := by
  refine ⟨1, _, _, ?_, k⟩
  unfold ab_ex
  simp only [h1]
  show ab_rt M (ab_r .ireturn 1) [.int v] h = _
  unfold ab_rt
  simp only [ab_r, hr]
  rw [if_pos hn]
theorem go_rv (h1 : ab_at M.2.2.2.2.2 pc = some (ab_r .return_ 1)) (hr : M.2.2.2.1 = none) (k : Q none h) : ab_go d M pc lv [] h Q := by
  refine ⟨1, _, _, ?_, k⟩
  unfold ab_ex
  simp only [h1]
  show ab_rt M (ab_r .return_ 1) [] h = _
  unfold ab_rt
  simp only [ab_r, hr]
  exact if_pos trivial
theorem go_c (h1 : ab_at M.2.2.2.2.2 pc = some it) (h2 : ab_kd it = 2) (h3 : ab_cal ab_G it st h = some (M', A, rest)) (hl : lv_args 0 A = lv0) (k1 : ab_go d M' 0 lv0 [] h Q') (k2 : ∀ r h', Q' r h' → ab_go (d + 1) M (pc + 3) lv (r.toList ++ rest) h' Q) : ab_go (d + 1) M pc lv st h Q := by
  subst hl
  obtain ⟨n1, r1, g1, hx1, hq1⟩ := k1
  obtain ⟨n2, r2, g2, hx2, hq2⟩ := k2 r1 g1 hq1
  refine ⟨(n1 + n2) + 1, r2, g2, ?_, hq2⟩
  unfold ab_ex
  simp only [h1, h2, h3, ab_ex_fuel n1 hx1 n2]
  rw [Nat.add_comm n1 n2]
  exact ab_ex_fuel n2 hx2 n1
/-- a call, walked on inside -/
theorem go_cc (h1 : ab_at M.2.2.2.2.2 pc = some it) (h2 : ab_kd it = 2) (h3 : ab_cal ab_G it st h = some (M', A, rest)) (hl : lv_args 0 A = lv0) (k1 : ab_go d M' 0 lv0 [] h (fun r h' => ab_go (d + 1) M (pc + 3) lv (r.toList ++ rest) h' Q)) : ab_go (d + 1) M pc lv st h Q := go_c h1 h2 h3 hl k1 (fun _ _ q => q)
theorem ab_cal_v {As : List Value} {a ci : Nat} {fs : List Value} (h0 : it.2.2.1 = 0) (hG : ab_G it.2.2.2.1 = some M') (hn : As.length = it.2.2.2.2.1) (hrd : ab_rd h a = some (.inr (ci, fs))) (hci : ci = M'.2.2.2.2.1.2.1) (hk : M'.2.2.2.2.1.1 = 0) (hok : ab_cok M' (.ref a :: As) rest = true) (hst : st = As.reverse ++ .ref a :: rest) : ab_cal ab_G it st h = some (M', .ref a :: As, rest) := by
  have e1 : st.take it.2.2.2.2.1 = As.reverse := by rw [hst, ← hn, ← List.length_reverse, List.take_left']; rfl
  have e2 : st.drop it.2.2.2.2.1 = .ref a :: rest := by rw [hst, ← hn, ← List.length_reverse, List.drop_left']; rfl
  unfold ab_cal
  simp only [hG, e1, e2, h0, List.length_reverse, hn, if_pos, List.reverse_reverse, hrd]
  rw [if_neg (by omega), if_pos ⟨hci, hk, hok⟩]
/-- a run that a closed one shows, whatever the cells are that it does not touch -/
def ab_obs (x : Option (Option Value × ab_H)) : Option (Option Value × Nat × Nat) := x.map (fun q => (q.1, q.2.1, q.2.2.1))
theorem go_sim {S : Nat → Prop} {n c1 c2 : Nat} {g : ab_H} {r : Option Value} (hx : ab_obs (ab_ex ab_G n d M pc lv st h) = some (r, c1, c2)) (q : ab_sim S h g) : ab_go d M pc lv st g (fun r' g' => r' = r ∧ g'.1 = c1 ∧ g'.2.1 = c2 ∧ ab_sm2 S ((ab_ex ab_G n d M pc lv st h).getD (none, h)).2 g g') := by
  cases hr : ab_ex ab_G n d M pc lv st h with
  | none => rw [hr] at hx; cases hx
  | some w =>
    obtain ⟨r0, hF⟩ := w
    rw [hr] at hx
    cases hx
    obtain ⟨gF, h1, h2⟩ := ab_ex_sim n hr q
    exact ⟨n, _, gF, h1, rfl, h2.1.1.symm, h2.1.2.1.symm, h2⟩
theorem ab_rd_self {a : Nat} {e : ab_E} (ha : a < h.1) : ab_rd (ab_wr h a e) a = some e := by
  show (if a < h.1 then some (va_up h.2.2 a e a) else none) = some e
  rw [if_pos ha, va_up_self]
theorem ab_rd_other {a b : Nat} {e : ab_E} (hb : b ≠ a) : ab_rd (ab_wr h a e) b = ab_rd h b := by
  show (if b < h.1 then some (va_up h.2.2 a e b) else none) = (if b < h.1 then some (h.2.2 b) else none)
  rw [va_up_ne _ _ hb]
end GO
theorem ab_i0 {x : Int32} (k : Int32) (h : x.toInt = k.toInt) : x = k := Int32.toInt_inj.mp h
def ab_ob (e : ab_E) : Option (Nat × List Value) := match e with
  | .inr q => some q
  | .inl _ => none
theorem ab_ob_of {e : ab_E} {q : Nat × List Value} (h : ab_ob e = some q) : e = .inr q := by
  cases e with
  | inl x => cases h
  | inr x => cases h; rfl
/-- an array's type, length and the ints at some places -/
def ab_ar (e : ab_E) (js : List Nat) : Option (Nat × Nat × List Int32) := match e with
  | .inl (t, n, .inl f) => some (t, n, js.map f)
  | _ => none
theorem ab_ar_of {e : ab_E} {js : List Nat} {t n : Nat} {vs : List Int32} (h : ab_ar e js = some (t, n, vs)) : ∃ f, e = .inl (t, n, .inl f) ∧ js.map f = vs := by
  unfold ab_ar at h
  split at h
  · cases h
    exact ⟨_, rfl, rfl⟩
  · cases h
def ab_aq (e : ab_E) (js : List Nat) : Option (Nat × Nat × List (Option Nat)) := match e with
  | .inl (t, n, .inr (.inr f)) => some (t, n, js.map f)
  | _ => none
theorem ab_aq_of {e : ab_E} {js : List Nat} {t n : Nat} {vs : List (Option Nat)} (h : ab_aq e js = some (t, n, vs)) : ∃ f, e = .inl (t, n, .inr (.inr f)) ∧ js.map f = vs := by
  unfold ab_aq at h
  split at h
  · cases h
    exact ⟨_, rfl, rfl⟩
  · cases h
theorem go_lk {d : Nat} {M : ab_M} {pc tgt : Nat} {lv : ab_L} {st : List Value} {h : ab_H} {Q : Option Value → ab_H → Prop} {df off : Int} {ps : Array (Int × Int)} {len : Nat} {x : Int32} (j : Int) (h1 : ab_at M.2.2.2.2.2 pc = some (ab_r (.lookupswitch df ps) len)) (hx : x.toInt = j) (hp : (ps.toList.zip (ps.toList.drop 1)).all (fun (a, next) => a.1 < next.1) = true) (ho : Op.lookupswitch.offset ps.toList df j = off) (ht : (pc : Int) + off = (tgt : Int)) (k : ab_go d M tgt lv st h Q) : ab_go d M pc lv (.int x :: st) h Q := by
  refine go_s h1 rfl (show ab_lsw df ps pc lv (.int x :: st) h = _ from ?_) k
  unfold ab_lsw
  dsimp only
  rw [if_pos hp, hx, ho]
  exact ab_jp_t ht
