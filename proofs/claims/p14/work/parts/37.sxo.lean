/-! ===== the wider checker is sound: steps over ints and longs ===== -/
section SX6
variable {SP : List sx_C} {z L : Nat} {xs : Nat → Int32} {Mo : List Nat} {β : Nat → Int} {A B : sx_S} {lv lv' : ab_L} {st st' : List Value} {h h' : ab_H} {l : List (Nat × sx_S)} {pc p n i nL nx : Nat}
theorem sx_pv {v : sx_V} {r : List sx_V} (hs : ∀ β', sx_ag nx β β' → sx_st β' (v :: r) st) : ∃ w q, st = w :: q ∧ (∀ β', sx_ag nx β β' → sx_v β' v w) ∧ (∀ β', sx_ag nx β β' → sx_st β' r q) := by
  have h0 := hs β sx_ag.rf
  cases st with
  | nil => exact h0.elim
  | cons w q => exact ⟨w, q, rfl, fun β' ha => (hs β' ha).1, fun β' ha => (hs β' ha).2⟩
theorem sx_pi {e : sx_E} {r : List sx_V} (hs : ∀ β', sx_ag nx β β' → sx_st β' (.inl (0, e) :: r) st) : ∃ b q, st = .int b :: q ∧ (∀ β', sx_ag nx β β' → b.toInt = sx_ev β' e) ∧ (∀ β', sx_ag nx β β' → sx_st β' r q) := by
  obtain ⟨w, q, rfl, h1, h2⟩ := sx_pv hs
  cases w with
  | int b => exact ⟨b, q, rfl, h1, h2⟩
  | _ => exact (h1 β sx_ag.rf).elim
theorem sx_pl {e : sx_E} {r : List sx_V} (hs : ∀ β', sx_ag nx β β' → sx_st β' (.inl (1, e) :: r) st) : ∃ b q, st = .long b :: q ∧ (∀ β', sx_ag nx β β' → b.toInt = sx_ev β' e) ∧ (∀ β', sx_ag nx β β' → sx_st β' r q) := by
  obtain ⟨w, q, rfl, h1, h2⟩ := sx_pv hs
  cases w with
  | long b => exact ⟨b, q, rfl, h1, h2⟩
  | _ => exact (h1 β sx_ag.rf).elim
theorem sx_pc2 {e : sx_E} {r : List sx_V} (hs : ∀ β', sx_ag nx β β' → sx_st β' (.inl (2, e) :: r) st) : ∃ b q, st = .int b :: q ∧ (∀ β', sx_ag nx β β' → ∀ c : ClassFile.Cond, ab_ci c b.toInt 0 ↔ ab_ci c (sx_ev β' e) 0) ∧ (∀ β', sx_ag nx β β' → sx_st β' r q) := by
  obtain ⟨w, q, rfl, h1, h2⟩ := sx_pv hs
  cases w with
  | int b => exact ⟨b, q, rfl, h1, h2⟩
  | _ => exact (h1 β sx_ag.rf).elim
theorem sx_pr {a : Nat} {r : List sx_V} (hs : ∀ β', sx_ag nx β β' → sx_st β' (.inr (1, a) :: r) st) : ∃ q, st = .ref a :: q ∧ (∀ β', sx_ag nx β β' → sx_st β' r q) := by
  obtain ⟨w, q, rfl, h1, h2⟩ := sx_pv hs
  cases w with
  | ref b =>
    have e : a = b := h1 β sx_ag.rf
    subst e
    exact ⟨q, rfl, h2⟩
  | _ => exact (h1 β sx_ag.rf).elim
theorem sx_px {a : Nat} {r : List sx_V} (hs : ∀ β', sx_ag nx β β' → sx_st β' (.inr (2, a) :: r) st) : ∃ q, st = .retAddr a :: q ∧ (∀ β', sx_ag nx β β' → sx_st β' r q) := by
  obtain ⟨w, q, rfl, h1, h2⟩ := sx_pv hs
  cases w with
  | retAddr b =>
    have e : a = b := h1 β sx_ag.rf
    subst e
    exact ⟨q, rfl, h2⟩
  | _ => exact (h1 β sx_ag.rf).elim
theorem sx_ok.sts {r : List sx_V} (g : sx_ok SP z L xs A β lv st h) (hst : A.2.1 = r) : ∀ β', sx_ag (sx_nx A) β β' → sx_st β' r st := fun β' ha => by
  rw [← hst]
  exact (g β' ha).2.1
theorem sx_ok.stk {r : List sx_V} {q : List Value} (g : sx_ok SP z L xs A β lv st h) (hq : ∀ β', sx_ag (sx_nx A) β β' → sx_st β' r q) : sx_ok SP z L xs (sx_k r A) β lv q h := fun β' ha => (g β' ha).stk (hq β' ha)
/-- what an int step must show -/
def sx_op (SP : List sx_C) (z L : Nat) (xs : Nat → Int32) (lv : ab_L) (h : ab_H) (f : Int32 → Int32 → Int32) (F : Nat → sx_E → sx_E → sx_S → sx_R) : Prop := ∀ (p : Nat) (x y : sx_E) (A : sx_S) (st : List Value) (l : List (Nat × sx_S)) (β : Nat → Int) (a b : Int32), sx_xi A β x a.toInt → sx_xi A β y b.toInt → sx_ok SP z L xs A β lv st h → F p x y A = some l → sx_t1 SP z L xs A β l p lv (.int (f a b) :: st) h
theorem sx_z_b2 {f : Int32 → Int32 → Int32} {F : Nat → sx_E → sx_E → sx_S → sx_R} (hF : sx_op SP z L xs lv h f F) (g : sx_ok SP z L xs A β lv st h) (hs : sx_b2 F pc A = some l) : sx_to SP z L xs Mo (sx_nx A) β h l (ab_b2 f pc lv st h) := by
  unfold sx_b2 at hs
  split at hs
  · rename_i y x r hst
    obtain ⟨b, q1, rfl, hb, h1⟩ := sx_pi (g.sts hst)
    obtain ⟨a, q, rfl, ha, h2⟩ := sx_pi h1
    exact sx_t1.to (A := sx_k r A) (hF (pc + 1) x y (sx_k r A) q l β a b ha hb (g.stk h2) hs) rfl
  · cases hs
def sx_opl (SP : List sx_C) (z L : Nat) (xs : Nat → Int32) (lv : ab_L) (h : ab_H) (f : Int64 → Int64 → Int64) (F : Nat → sx_E → sx_E → sx_S → sx_R) : Prop := ∀ (p : Nat) (x y : sx_E) (A : sx_S) (st : List Value) (l : List (Nat × sx_S)) (β : Nat → Int) (a b : Int64), sx_xi A β x a.toInt → sx_xi A β y b.toInt → sx_ok SP z L xs A β lv st h → F p x y A = some l → sx_t1 SP z L xs A β l p lv (.long (f a b) :: st) h
theorem sx_z_l2 {f : Int64 → Int64 → Int64} {F : Nat → sx_E → sx_E → sx_S → sx_R} (hF : sx_opl SP z L xs lv h f F) (g : sx_ok SP z L xs A β lv st h) (hs : sx_l2 F pc A = some l) : sx_to SP z L xs Mo (sx_nx A) β h l (ab_l2 f pc lv st h) := by
  unfold sx_l2 at hs
  split at hs
  · rename_i y x r hst
    obtain ⟨b, q1, rfl, hb, h1⟩ := sx_pl (g.sts hst)
    obtain ⟨a, q, rfl, ha, h2⟩ := sx_pl h1
    exact sx_t1.to (A := sx_k r A) (hF (pc + 1) x y (sx_k r A) q l β a b ha hb (g.stk h2) hs) rfl
  · cases hs
def sx_op1 (SP : List sx_C) (z L : Nat) (xs : Nat → Int32) (lv : ab_L) (h : ab_H) (f : Int32 → Int32) (F : Nat → sx_E → sx_S → sx_R) : Prop := ∀ (p : Nat) (x : sx_E) (A : sx_S) (st : List Value) (l : List (Nat × sx_S)) (β : Nat → Int) (a : Int32), sx_xi A β x a.toInt → sx_ok SP z L xs A β lv st h → F p x A = some l → sx_t1 SP z L xs A β l p lv (.int (f a) :: st) h
theorem sx_z_b1 {f : Int32 → Int32} {F : Nat → sx_E → sx_S → sx_R} (hF : sx_op1 SP z L xs lv h f F) (g : sx_ok SP z L xs A β lv st h) (hs : sx_b1 F pc A = some l) : sx_to SP z L xs Mo (sx_nx A) β h l (ab_b1 f pc lv st h) := by
  unfold sx_b1 at hs
  split at hs
  · rename_i x r hst
    obtain ⟨a, q, rfl, ha, h1⟩ := sx_pi (g.sts hst)
    exact sx_t1.to (A := sx_k r A) (hF (pc + 1) x (sx_k r A) q l β a ha (g.stk h1) hs) rfl
  · cases hs
theorem sx_vi (a : Int32) : sx_vk 0 (.int a) a.toInt := Or.inl ⟨a, rfl, rfl, rfl⟩
theorem sx_vl (a : Int64) : sx_vk 1 (.long a) a.toInt := Or.inr ⟨a, rfl, rfl, rfl⟩
theorem sx_m0 : sx_mn 0 = -2147483648 ∧ sx_mx 0 = 2147483647 := ⟨rfl, rfl⟩
theorem sx_m1 : sx_mn 1 = -9223372036854775808 ∧ sx_mx 1 = 9223372036854775807 := ⟨rfl, rfl⟩
theorem sx_oadd_ok : sx_op SP z L xs lv h (fun x y => x + y) (sx_oadd 0) := fun p x y A st l β a b hx hy g hs => by
  refine sx_li_ok (sx_vi (a + b)) (fun β' ha h1 h2 => ?_) g hs
  rw [sx_ev_add, ← hx β' ha, ← hy β' ha] at h1 h2 ⊢
  rw [sx_m0.1] at h1
  rw [sx_m0.2] at h2
  rw [Int32.toInt_add, sx_bm h1 h2]
theorem sx_osub_ok : sx_op SP z L xs lv h (fun x y => x - y) (sx_osub 0) := fun p x y A st l β a b hx hy g hs => by
  refine sx_li_ok (sx_vi (a - b)) (fun β' ha h1 h2 => ?_) g hs
  rw [sx_ev_sub, ← hx β' ha, ← hy β' ha] at h1 h2 ⊢
  rw [sx_m0.1] at h1
  rw [sx_m0.2] at h2
  rw [Int32.toInt_sub, sx_bm h1 h2]
theorem sx_laddok : sx_opl SP z L xs lv h (fun x y => x + y) (sx_oadd 1) := fun p x y A st l β a b hx hy g hs => by
  refine sx_li_ok (sx_vl (a + b)) (fun β' ha h1 h2 => ?_) g hs
  rw [sx_ev_add, ← hx β' ha, ← hy β' ha] at h1 h2 ⊢
  rw [sx_m1.1] at h1
  rw [sx_m1.2] at h2
  rw [Int64.toInt_add, sx_bm64 h1 h2]
theorem sx_lsubok : sx_opl SP z L xs lv h (fun x y => x - y) (sx_osub 1) := fun p x y A st l β a b hx hy g hs => by
  refine sx_li_ok (sx_vl (a - b)) (fun β' ha h1 h2 => ?_) g hs
  rw [sx_ev_sub, ← hx β' ha, ← hy β' ha] at h1 h2 ⊢
  rw [sx_m1.1] at h1
  rw [sx_m1.2] at h2
  rw [Int64.toInt_sub, sx_bm64 h1 h2]
theorem sx_ev_c {e : sx_E} (he : e.2 = []) : sx_ev β e = e.1 := by simp [sx_ev, he, sx_ts]
theorem sx_omul_ok : sx_op SP z L xs lv h (fun x y => x * y) (sx_omul 0) := fun p x y A st l β a b hx hy g hs => by
  unfold sx_omul at hs
  split at hs
  · rename_i h0
    refine sx_li_ok (sx_vi (a * b)) (fun β' ha h1 h2 => ?_) g hs
    have hb := hy β' ha
    rw [sx_ev_c h0] at hb
    rw [sx_ev_mk, ← hb, ← hx β' ha, Int.mul_comm] at h1 h2 ⊢
    rw [sx_m0.1] at h1
    rw [sx_m0.2] at h2
    rw [Int32.toInt_mul, sx_bm h1 h2]
  · rename_i h0 _
    refine sx_li_ok (sx_vi (a * b)) (fun β' ha h1 h2 => ?_) g hs
    have hb := hx β' ha
    rw [sx_ev_c h0] at hb
    rw [sx_ev_mk, ← hb, ← hy β' ha] at h1 h2 ⊢
    rw [sx_m0.1] at h1
    rw [sx_m0.2] at h2
    rw [Int32.toInt_mul, sx_bm h1 h2]
  · exact sx_full_ok (sx_vi (a * b)) g hs
theorem sx_of_int (a : Int32) : Int32.ofInt a.toInt = a := by
  refine Int32.toInt_inj.mp ?_
  rw [Int32.toInt_ofInt]
  exact Int32.toInt_bmod_size a
theorem sx_cc_ok {f : Int32 → Int32 → Int32} {F : Nat → sx_E → sx_E → sx_S → sx_R} (hF : sx_op SP z L xs lv h f F) : sx_op SP z L xs lv h f (fun p x y A => sx_cc f p x y A (F p x y A)) := fun p x y A st l β a b hx hy g hs => by
  dsimp only at hs
  unfold sx_cc at hs
  split at hs
  · rename_i h0 h1
    cases hs
    refine sx_t1.same g rfl rfl (fun β' g' => g'.push ?_)
    have ha := hx β sx_ag.rf
    have hb := hy β sx_ag.rf
    rw [sx_ev_c h0] at ha
    rw [sx_ev_c h1] at hb
    show (f a b).toInt = sx_ev β' (sx_K _)
    rw [sx_ev_K, ← ha, ← hb, sx_of_int, sx_of_int]
  · exact hF p x y A st l β a b hx hy g hs
theorem sx_oand_ok : sx_op SP z L xs lv h (fun x y => x &&& y) (sx_oand 0) := fun p x y A st l β a b hx hy g hs => by
  unfold sx_oand at hs
  have hk := sx_vi (a &&& b)
  have e0 : (a &&& b).toInt = (a.toBitVec &&& b.toBitVec).toInt := rfl
  have e1 : (a &&& b).toInt = (b.toBitVec &&& a.toBitVec).toInt := by rw [e0, BitVec.and_comm]
  split at hs
  · rename_i u v hu hv
    have bu := sx_bd_ok g.at.nf hu
    have bv := sx_bd_ok g.at.nf hv
    rw [← hx β sx_ag.rf] at bu
    rw [← hy β sx_ag.rf] at bv
    have ka : 0 ≤ a.toInt → 0 ≤ (a &&& b).toInt ∧ (a &&& b).toInt ≤ a.toInt := fun q => by rw [e0]; exact sx_bvand q
    have kb : 0 ≤ b.toInt → 0 ≤ (a &&& b).toInt ∧ (a &&& b).toInt ≤ b.toInt := fun q => by rw [e1]; exact sx_bvand q
    split at hs
    · rename_i hc
      have k1 := ka (by omega)
      have k2 := kb (by omega)
      exact sx_fp_ok hk k1.1 (by split <;> omega) g hs
    · split at hs
      · rename_i hc
        have k1 := ka (by omega)
        exact sx_fp_ok hk k1.1 (by omega) g hs
      · split at hs
        · have k2 := kb (by omega)
          exact sx_fp_ok hk k2.1 (by omega) g hs
        · exact sx_full_ok hk g hs
  · exact sx_full_ok hk g hs
theorem sx_landok : sx_opl SP z L xs lv h (fun x y => x &&& y) (sx_oand 1) := fun p x y A st l β a b hx hy g hs => by
  unfold sx_oand at hs
  have hk := sx_vl (a &&& b)
  have e0 : (a &&& b).toInt = (a.toBitVec &&& b.toBitVec).toInt := rfl
  have e1 : (a &&& b).toInt = (b.toBitVec &&& a.toBitVec).toInt := by rw [e0, BitVec.and_comm]
  split at hs
  · rename_i u v hu hv
    have bu := sx_bd_ok g.at.nf hu
    have bv := sx_bd_ok g.at.nf hv
    rw [← hx β sx_ag.rf] at bu
    rw [← hy β sx_ag.rf] at bv
    have ka : 0 ≤ a.toInt → 0 ≤ (a &&& b).toInt ∧ (a &&& b).toInt ≤ a.toInt := fun q => by rw [e0]; exact sx_bvand q
    have kb : 0 ≤ b.toInt → 0 ≤ (a &&& b).toInt ∧ (a &&& b).toInt ≤ b.toInt := fun q => by rw [e1]; exact sx_bvand q
    split at hs
    · rename_i hc
      have k1 := ka (by omega)
      have k2 := kb (by omega)
      exact sx_fp_ok hk k1.1 (by split <;> omega) g hs
    · split at hs
      · rename_i hc
        have k1 := ka (by omega)
        exact sx_fp_ok hk k1.1 (by omega) g hs
      · split at hs
        · have k2 := kb (by omega)
          exact sx_fp_ok hk k2.1 (by omega) g hs
        · exact sx_full_ok hk g hs
  · exact sx_full_ok hk g hs
theorem sx_oor_ok' {f : Int32 → Int32 → Int32} (hf : ∀ (a b : Int32) (k : Nat), 0 ≤ a.toInt → 0 ≤ b.toInt → a.toInt < (2 ^ k : Nat) → b.toInt < (2 ^ k : Nat) → 0 ≤ (f a b).toInt ∧ (f a b).toInt < (2 ^ k : Nat)) : sx_op SP z L xs lv h f sx_oor := fun p x y A st l β a b hx hy g hs => by
  unfold sx_oor at hs
  have hk := sx_vi (f a b)
  split at hs
  · rename_i u v hu hv
    have bu := sx_bd_ok g.at.nf hu
    have bv := sx_bd_ok g.at.nf hv
    rw [← hx β sx_ag.rf] at bu
    rw [← hy β sx_ag.rf] at bv
    split at hs
    · rename_i hc
      obtain ⟨k, k1, k2⟩ := sx_pw_ok (if u.2 ≤ v.2 then v.2 else u.2)
      rw [k1] at hs
      have hp := Nat.two_pow_pos k
      have j1 := k2 a.toInt (by split <;> omega)
      have j2 := k2 b.toInt (by split <;> omega)
      have j := hf a b k (by omega) (by omega) (by omega) (by omega)
      exact sx_fp_ok hk j.1 (by omega) g hs
    · exact sx_full_ok hk g hs
  · exact sx_full_ok hk g hs
theorem sx_oor_ok : sx_op SP z L xs lv h (fun x y => x ||| y) sx_oor := sx_oor_ok' (fun a b k h1 h2 h3 h4 => (sx_bvor (x := a.toBitVec) (y := b.toBitVec) (by decide) h1 h2 h3 h4).1)
theorem sx_oxor_ok : sx_op SP z L xs lv h (fun x y => x ^^^ y) sx_oxor := fun p x y A st l β a b hx hy g hs => by
  unfold sx_oxor at hs
  split at hs
  · rename_i hc
    have hb := hy β sx_ag.rf
    rw [sx_ev_c hc.1, hc.2] at hb
    have e : b = -1 := Int32.toInt_inj.mp hb
    subst e
    refine sx_li_ok (sx_vi (a ^^^ -1)) (fun β' ha h1 h2 => ?_) g hs
    rw [sx_ev_ak, sx_ev_neg, ← hx β' ha, sx_xm]
    omega
  · exact sx_oor_ok' (f := fun x y => x ^^^ y) (fun a b k h1 h2 h3 h4 => (sx_bvor (x := a.toBitVec) (y := b.toBitVec) (by decide) h1 h2 h3 h4).2) p x y A st l β a b hx hy g hs
theorem sx_pow_mono {a b : Nat} (h : a ≤ b) : (2 : Int) ^ a ≤ 2 ^ b := by
  have := Nat.pow_le_pow_right (n := 2) (by decide) h
  have e1 : ((2 ^ a : Nat) : Int) = 2 ^ a := by simp
  have e2 : ((2 ^ b : Nat) : Int) = 2 ^ b := by simp
  omega
theorem sx_pow_pos (a : Nat) : (0 : Int) < 2 ^ a := by
  have := Nat.two_pow_pos a
  have e1 : ((2 ^ a : Nat) : Int) = 2 ^ a := by simp
  omega
theorem sx_oshl_ok : sx_op SP z L xs lv h (fun x y => x <<< (y &&& 31)) sx_oshl := fun p x y A st l β a b hx hy g hs => by
  unfold sx_oshl at hs
  have hk := sx_vi (a <<< (b &&& 31))
  split at hs
  · rename_i h0
    split at hs
    · rename_i hc
      refine sx_li_ok hk (fun β' ha h1 h2 => ?_) g hs
      have hb := hy β' ha
      rw [sx_ev_c h0] at hb
      rw [sx_ev_mk, ← hx β' ha, Int.mul_comm] at h1 h2 ⊢
      rw [sx_m0.1] at h1
      rw [sx_m0.2] at h2
      rw [sx_isl (by omega) (by omega), hb, sx_bm h1 h2]
    · exact sx_full_ok hk g hs
  · split at hs
    · rename_i u v hu hv
      have bu := sx_bd_ok g.at.nf hu
      have bv := sx_bd_ok g.at.nf hv
      rw [← hx β sx_ag.rf] at bu
      rw [← hy β sx_ag.rf] at bv
      split at hs
      · rename_i hc
        obtain ⟨⟨c1, c2⟩, c3, c4⟩ := hc
        have p1 := sx_pow_mono (a := v.1.toNat) (b := b.toInt.toNat) (by omega)
        have p2 := sx_pow_mono (a := b.toInt.toNat) (b := v.2.toNat) (by omega)
        have p3 := sx_pow_pos v.1.toNat
        have p4 := sx_pow_pos b.toInt.toNat
        have q1 := Int.mul_le_mul bu.1 p1 (by omega) (by omega)
        have q2 := Int.mul_le_mul bu.2 p2 (by omega) (by omega)
        have q3 : 0 ≤ a.toInt * 2 ^ b.toInt.toNat := Int.mul_nonneg (by omega) (by omega)
        have e := sx_isl (a := a) (y := b) (by omega) (by omega)
        rw [sx_bm (by omega) (by omega)] at e
        exact sx_fp_ok hk (by rw [e]; exact q1) (by rw [e]; exact q2) g hs
      · exact sx_full_ok hk g hs
    · exact sx_full_ok hk g hs
theorem sx_oshr_ok : sx_op SP z L xs lv h (fun x y => x >>> (y &&& 31)) sx_oshr := fun p x y A st l β a b hx hy g hs => by
  unfold sx_oshr at hs
  have hk := sx_vi (a >>> (b &&& 31))
  split at hs
  · rename_i u hu
    have bu := sx_bd_ok g.at.nf hu
    rw [← hx β sx_ag.rf] at bu
    split at hs
    · have j := sx_ish (a := a) (y := b) (by omega)
      exact sx_fp_ok hk j.1 (by omega) g hs
    · exact sx_full_ok hk g hs
  · exact sx_full_ok hk g hs
theorem sx_oushr_ok : sx_op SP z L xs lv h (fun x y => (x.toUInt32 >>> (y.toUInt32 &&& Int32.toUInt32 31)).toInt32) sx_oushr := fun p x y A st l β a b hx hy g hs => by
  unfold sx_oushr at hs
  have hk := sx_vi ((a.toUInt32 >>> (b.toUInt32 &&& Int32.toUInt32 31)).toInt32)
  have j := sx_ius (a := a) (y := b)
  split at hs
  · rename_i u hu
    have bu := sx_bd_ok g.at.nf hu
    rw [← hx β sx_ag.rf] at bu
    split at hs
    · have j1 := j.1 (by omega)
      exact sx_fp_ok hk j1.1 (by omega) g hs
    · split at hs
      · rename_i h0
        split at hs
        · rename_i hc
          have hb := hy β sx_ag.rf
          rw [sx_ev_c h0] at hb
          have j1 := j.2 (by omega) (by omega)
          rw [hb] at j1
          exact sx_fp_ok hk j1.1 j1.2 g hs
        · exact sx_full_ok hk g hs
      · exact sx_full_ok hk g hs
  · exact sx_full_ok hk g hs
theorem sx_oneg_ok : sx_op1 SP z L xs lv h (fun x => -x) sx_oneg := fun p x A st l β a hx g hs => by
  refine sx_li_ok (sx_vi (-a)) (fun β' ha h1 h2 => ?_) g hs
  rw [sx_ev_neg, ← hx β' ha] at h1 h2 ⊢
  rw [sx_m0.1] at h1
  rw [sx_m0.2] at h2
  rw [Int32.toInt_neg, sx_bm h1 h2]
theorem sx_nar_ok {f : Int32 → Int32} {u v : Int} (h1 : ∀ a : Int32, u ≤ (f a).toInt ∧ (f a).toInt ≤ v) (h2 : ∀ a : Int32, u ≤ a.toInt → a.toInt ≤ v → f a = a) : sx_op1 SP z L xs lv h f (sx_nar u v) := fun p x A st l β a hx g hs => by
  unfold sx_nar at hs
  split at hs
  · rename_i hi
    cases hs
    have hb := sx_in_ok g.at.nf hi
    rw [← hx β sx_ag.rf] at hb
    rw [h2 a hb.1 hb.2]
    refine ⟨_, β, List.mem_singleton.mpr rfl, Nat.le_refl _, sx_ag.rf, fun β' ha => (g β' ha).push ?_⟩
    exact hx β' ha
  · exact sx_fp_ok (sx_vi (f a)) (h1 a).1 (h1 a).2 g hs
theorem sx_b8 (a : Int32) : -128 ≤ a.toInt8.toInt32.toInt ∧ a.toInt8.toInt32.toInt ≤ 127 := by
  rw [Int8.toInt_toInt32]
  have h1 := a.toInt8.le_toInt
  have h2 := a.toInt8.toInt_lt
  omega
theorem sx_b8e (a : Int32) (h1 : -128 ≤ a.toInt) (h2 : a.toInt ≤ 127) : a.toInt8.toInt32 = a := by
  refine Int32.toInt_inj.mp ?_
  rw [Int8.toInt_toInt32, Int32.toInt_toInt8]
  exact Int.bmod_eq_of_le (by omega) (by omega)
theorem sx_b16 (a : Int32) : -32768 ≤ a.toInt16.toInt32.toInt ∧ a.toInt16.toInt32.toInt ≤ 32767 := by
  rw [Int16.toInt_toInt32]
  have h1 := a.toInt16.le_toInt
  have h2 := a.toInt16.toInt_lt
  omega
theorem sx_b16e (a : Int32) (h1 : -32768 ≤ a.toInt) (h2 : a.toInt ≤ 32767) : a.toInt16.toInt32 = a := by
  refine Int32.toInt_inj.mp ?_
  rw [Int16.toInt_toInt32, Int32.toInt_toInt16]
  exact Int.bmod_eq_of_le (by omega) (by omega)
theorem sx_chn (a : Int32) : (a.toUInt32 % 65536).toInt32.toBitVec.toNat = a.toBitVec.toNat % 65536 := by
  show (a.toUInt32 % 65536).toBitVec.toNat = _
  rw [UInt32.toBitVec_mod, BitVec.toNat_umod]
  rfl
theorem sx_ch (a : Int32) : 0 ≤ (a.toUInt32 % 65536).toInt32.toInt ∧ (a.toUInt32 % 65536).toInt32.toInt ≤ 65535 := by
  have h1 := sx_chn a
  have h2 : (a.toUInt32 % 65536).toInt32.toInt = (a.toUInt32 % 65536).toInt32.toBitVec.toInt := rfl
  have h3 := BitVec.toInt_eq_toNat_of_lt (x := (a.toUInt32 % 65536).toInt32.toBitVec) (by omega)
  omega
theorem sx_che (a : Int32) (h1 : 0 ≤ a.toInt) (h2 : a.toInt ≤ 65535) : (a.toUInt32 % 65536).toInt32 = a := by
  refine Int32.toInt_inj.mp ?_
  have h3 := sx_chn a
  obtain ⟨h4, h5⟩ := sx_nn (x := a.toBitVec) h1
  have h6 : (a.toUInt32 % 65536).toInt32.toInt = (a.toUInt32 % 65536).toInt32.toBitVec.toInt := rfl
  have h7 := BitVec.toInt_eq_toNat_of_lt (x := (a.toUInt32 % 65536).toInt32.toBitVec) (by omega)
  have h8 : a.toInt = a.toBitVec.toInt := rfl
  omega
end SX6
