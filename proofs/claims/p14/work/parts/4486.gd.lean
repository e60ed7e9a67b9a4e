/-! ===== contracts and the pure machine together ===== -/
def gd_fb (u ci a k : Nat) (f : sx_F) : Bool := match dc_fk u ci k with
  | (0, _) => f.1 == 0
  | (1, _) => f.1 == 1
  | (2, o) => f.1 == 2 && f.2.2.2 == [a + o]
  | (3, _) => f.1 == 2
  | (4, _) => false
  | _ => true
def gd_fl (u ci a : Nat) : Nat → List sx_F → Bool
  | _, [] => true
  | k, f :: r => gd_fb u ci a k f && gd_fl u ci a (k + 1) r
def gd_cb (u a : Nat) (c : sx_C) : Bool := match c with
  | .inr (ci, fs) => (!(ci == 4) || a == 2) && gd_fl u ci a 0 fs
  | .inl _ => true
def gd_cl (u : Nat) : Nat → List sx_C → Bool
  | _, [] => true
  | a, c :: r => gd_cb u a c && gd_cl u (a + 1) r
theorem gd_all : gd_cl 5 1 sx_SP = true := by decide +kernel
theorem gd_cl_at {u : Nat} : ∀ {l : List sx_C} {a k : Nat} {c : sx_C}, gd_cl u a l = true → l[k]? = some c → gd_cb u (a + k) c = true
  | [], _, _, _, _, h => by cases h
  | x :: r, a, k, c, g, h => by
    unfold gd_cl at g
    rw [Bool.and_eq_true] at g
    cases k with
    | zero => cases h; exact g.1
    | succ k =>
      have := gd_cl_at (a := a + 1) (k := k) g.2 h
      rw [show a + (k + 1) = a + 1 + k by omega]
      exact this
theorem gd_fl_at {u ci a : Nat} : ∀ {l : List sx_F} {b k : Nat} {f : sx_F}, gd_fl u ci a b l = true → l[k]? = some f → gd_fb u ci a (b + k) f = true
  | [], _, _, _, _, h => by cases h
  | x :: r, b, k, f, g, h => by
    unfold gd_fl at g
    rw [Bool.and_eq_true] at g
    cases k with
    | zero => cases h; exact g.1
    | succ k =>
      have := gd_fl_at (b := b + 1) (k := k) g.2 h
      rw [show b + (k + 1) = b + 1 + k by omega]
      exact this
section GD
variable {z L d : Nat} {xs : Nat → Int32} {h h' : ab_H}
theorem gd_wf (hh : sx_h sx_SP z L xs h) : dc_wf 5 h := fun a ha => by
  cases a with
  | zero =>
    rw [hh.2.2.1]
    trivial
  | succ k =>
    have hk : k < sx_SP.length := by have := hh.1; omega
    have hc : sx_SP[k]? = some sx_SP[k] := List.getElem?_eq_getElem hk
    generalize sx_SP[k] = c at hc
    have sc := hh.2.2.2 k c hc
    have cb := gd_cl_at gd_all hc
    rw [Nat.add_comm] at cb
    cases c with
    | inl q =>
      obtain ⟨t, n, ps, cs⟩ := q
      cases he : h.2.2 (k + 1) with
      | inr w => rw [he] at sc; exact sc.elim
      | inl w =>
        obtain ⟨t', n', f⟩ := w
        rw [he] at sc
        rcases f with f | f | f
        · trivial
        · trivial
        · obtain ⟨-, q2, -, q⟩ := sc
          intro j hj
          obtain ⟨b, hb, -⟩ := q j (by omega)
          exact ⟨b, hb⟩
    | inr q =>
      obtain ⟨ci, fs⟩ := q
      cases he : h.2.2 (k + 1) with
      | inl w =>
        rw [he] at sc
        exact sc.elim
      | inr w =>
        obtain ⟨cj, ws⟩ := w
        rw [he] at sc
        obtain ⟨rfl, hl, hv⟩ := sc
        unfold gd_cb at cb
        rw [Bool.and_eq_true, Bool.or_eq_true] at cb
        refine ⟨fun q => ?_, fun j v hj => ?_⟩
        · rcases cb.1 with z | z
          · rw [q] at z; cases z
          · exact eq_of_beq z
        · have hjl : j < fs.length := by rw [hl]; exact (List.getElem?_eq_some_iff.mp hj).1
          have hf : fs[j]? = some fs[j] := List.getElem?_eq_getElem hjl
          generalize fs[j] = f at hf
          have fv := hv j f v hf hj
          have fb := gd_fl_at cb.2 hf
          rw [Nat.zero_add] at fb
          unfold gd_fb at fb
          split at fb
          · rename_i o hq
            rw [hq]
            unfold sx_fv at fv
            rw [eq_of_beq fb] at fv
            obtain ⟨x, e, -⟩ := fv
            exact ⟨x, e⟩
          · rename_i o hq
            rw [hq]
            unfold sx_fv at fv
            rw [eq_of_beq fb] at fv
            exact fv
          · rename_i o hq
            rw [hq]
            rw [Bool.and_eq_true] at fb
            unfold sx_fv at fv
            rw [eq_of_beq fb.1] at fv
            obtain ⟨x, e, hx⟩ := fv
            rw [eq_of_beq fb.2, List.mem_singleton] at hx
            subst hx
            exact e
          · rename_i o hq
            rw [hq]
            unfold sx_fv at fv
            rw [eq_of_beq fb] at fv
            obtain ⟨x, e, -⟩ := fv
            exact ⟨x, e⟩
          · cases fb
          · rename_i q n1 n2 n3 n4 n5
            generalize dc_fk 5 ci j = q at n1 n2 n3 n4 n5
            obtain ⟨q1, q2⟩ := q
            unfold dc_fo
            dsimp only
            split
            · exact (n1 q2 rfl).elim
            · exact (n2 q2 rfl).elim
            · exact (n3 q2 rfl).elim
            · exact (n4 q2 rfl).elim
            · exact (n5 q2 rfl).elim
            · trivial
/-- a contract's run, with what the pure machine says of it -/
theorem gd_run {K : sx_KK} {M : ab_M} {As : List Value} {β : Nat → Int} {Q : Option Value → dc_M → Prop} (hK : sx_holds sx_SP z L xs K) (hM : ab_G K.1 = some M) (hd : K.2.2.2.1 ≤ d) (hat : sx_at sx_SP z L xs K.2.1 β [] As h) (hq : ∀ N, dc_pv 5 N M 0 (lv_args 0 As) [] (dc_vw h) Q) : ab_go d M 0 (lv_args 0 As) [] h (fun r h' => sx_post sx_SP z L xs K β h r h' ∧ Q r (dc_vw h')) := by
  have g := hK.2 M hM d hd β As h hat
  obtain ⟨n, r, h', hx, a, b⟩ := pa_go g (fun N => hq N d h (gd_wf hat.2.2.2.2.2.2) rfl)
  exact ⟨n, r, h', hx, a, b.2⟩
/-- the beginning of a contract with so many ints -/
def gs_in (c : Nat) (fs : List (Nat × sx_V)) (n : Nat) : sx_S := ([], .inr (1, c) :: (List.range' 0 n).map (fun s => .inl (0, sx_Y (s + 1))), fs, [], (List.range' 0 n).map (fun s => (s + 1, -2147483648, 2147483647)), [], n + 1)
theorem gs_st {β : Nat → Int} : ∀ (vs : List Int32) (k : Nat), (∀ j, j < vs.length → β (k + j + 1) = (vs.getD j 0).toInt) → sx_st β ((List.range' k vs.length).map (fun s => .inl (0, sx_Y (s + 1)))) (vs.map Value.int)
  | [], _, _ => trivial
  | v :: r, k, hβ => by
    refine ⟨?_, gs_st r (k + 1) (fun j hj => ?_)⟩
    · show v.toInt = sx_ev β (sx_Y (k + 1))
      rw [sx_ev_Y]
      exact (hβ 0 (by simp)).symm
    · have := hβ (j + 1) (by simpa using hj)
      rw [show k + 1 + j + 1 = k + (j + 1) + 1 by omega, this]
      rfl
theorem gs_at {c : Nat} {fs : List (Nat × sx_V)} (vs : List Int32) (hh : sx_h sx_SP z L xs h) (hf : ∀ q ∈ fs, ∃ w, sx_fd h q.1 = some w ∧ sx_v (fun s => (vs.getD (s - 1) 0).toInt) q.2 w) : sx_at sx_SP z L xs (gs_in c fs vs.length) (fun s => (vs.getD (s - 1) 0).toInt) [] (.ref c :: vs.map Value.int) h := by
  refine ⟨fun q hq => (by cases hq), ⟨rfl, gs_st vs 0 (fun j hj => ?_)⟩, hf, fun q hq => (by cases hq), fun q hq => ?_, fun q hq => (by cases hq), hh⟩
  · rw [show 0 + j + 1 - 1 = j by omega]
  · obtain ⟨s, -, rfl⟩ := List.mem_map.mp hq
    show -2147483648 ≤ (vs.getD (s + 1 - 1) 0).toInt ∧ (vs.getD (s + 1 - 1) 0).toInt ≤ 2147483647
    exact ⟨Int32.le_toInt _, by have := Int32.toInt_lt (vs.getD (s + 1 - 1) 0); omega⟩
/-- which net is which -/
def gm (a b : Nat) (h : ab_H) : Prop := sx_fd h 135 = some (.ref a) ∧ sx_fd h 136 = some (.ref b)
theorem gm_f {a b : Nat} (g : gm a b h) {β : Nat → Int} : ∀ q ∈ ([(135, .inr (1, a)), (136, .inr (1, b))] : List (Nat × sx_V)), ∃ w, sx_fd h q.1 = some w ∧ sx_v β q.2 w := fun q hq => by
  rcases List.mem_cons.mp hq with rfl | hq
  · exact ⟨_, g.1, rfl⟩
  rcases List.mem_cons.mp hq with rfl | hq
  · exact ⟨_, g.2, rfl⟩
  cases hq
theorem gm_fr {a b : Nat} {mo : List Nat} (g : gm a b h) (hfr : sx_fr mo h h') (h1 : mo.contains 135 = false) (h2 : mo.contains 136 = false) : gm a b h' := ⟨(sx_fr_fd hfr h1 (by decide)).trans g.1, (sx_fr_fd hfr h2 (by decide)).trans g.2⟩
/-- a field that is left alone -/
theorem gd_fo {mo : List Nat} {c k ci ci' : Nat} {fs fs' : List Value} (hfr : sx_fr mo h h') (hm : mo.contains (c * 128 + k) = false) (hk : k < 125) (r : ab_rd h c = some (.inr (ci, fs))) (r' : ab_rd h' c = some (.inr (ci', fs'))) : fs'[k]? = fs[k]? := by
  have q := sx_fr_fd hfr hm (by omega)
  rw [sx_fd_o r (by omega), sx_fd_o r' (by omega)] at q
  exact q
theorem gd_o {a ci : Nat} {fs : List sx_F} (hc : sx_cel sx_SP a = some (.inr (ci, fs))) (hh : sx_h sx_SP z L xs h) : ∃ ws, ab_rd h a = some (.inr (ci, ws)) ∧ fs.length = ws.length ∧ ∀ (k : Nat) (f : sx_F) (w : Value), fs[k]? = some f → ws[k]? = some w → sx_fv f w := by
  obtain ⟨r1, r2, -⟩ := sx_cel_ok hc hh
  obtain ⟨ws, ew, hl, hv⟩ := sx_c_o r2
  rw [ew] at r1
  exact ⟨ws, r1, hl, hv⟩
theorem gd_fi {mo : List Nat} {c k ci : Nat} {fs : List sx_F} (hfr : sx_fr mo h h') (hh : sx_h sx_SP z L xs h) (hh' : sx_h sx_SP z L xs h') (hc : sx_cel sx_SP c = some (.inr (ci, fs))) (hm : mo.contains (c * 128 + k) = false) (hk : k < 125) : (dc_vw h').1 c k = (dc_vw h).1 c k := by
  obtain ⟨ws, r, -⟩ := gd_o hc hh
  obtain ⟨ws', r', -⟩ := gd_o hc hh'
  rw [dc_v1 r, dc_v1 r']
  unfold dc_vi
  dsimp only
  rw [gd_fo hfr hm hk r r']
theorem gd_fa {mo : List Nat} {c t n : Nat} {ps : List (Int × Int)} {cs : List Nat} (hfr : sx_fr mo h h') (hh : sx_h sx_SP z L xs h) (hh' : sx_h sx_SP z L xs h') (hc : sx_cel sx_SP c = some (.inl (t, n, ps, cs))) (h2 : t ≠ 2) (h4 : t ≠ 4) (hm : mo.contains (c * 128 + 127) = false) (j : Nat) : (dc_vw h').1 c j = (dc_vw h).1 c j := by
  obtain ⟨f, r, -⟩ := nw_a hc h2 h4 hh
  obtain ⟨f', r', -⟩ := nw_a hc h2 h4 hh'
  have k := hfr (c * 128 + 127) hm
  unfold sx_ob at k
  rw [if_pos (by omega), if_pos (by omega), show (c * 128 + 127) / 128 = c by omega, (ab_rd_of r).2, (ab_rd_of r').2] at k
  cases k
  rw [dc_v1 r, dc_v1 r']
/-- bounds -/
theorem gd_bi {c k ci : Nat} {fs : List sx_F} {lo hi : Int} {l : List Nat} (hh : sx_h sx_SP z L xs h) (hc : sx_cel sx_SP c = some (.inr (ci, fs))) (hk : fs[k]? = some (0, lo, hi, l)) : lo ≤ ((dc_vw h).1 c k).toInt ∧ ((dc_vw h).1 c k).toInt ≤ hi := by
  obtain ⟨ws, r, hl, hv⟩ := gd_o hc hh
  have hkl : k < ws.length := by rw [← hl]; exact (List.getElem?_eq_some_iff.mp hk).1
  obtain ⟨x, e, h1, h2⟩ := hv k _ _ hk (List.getElem?_eq_getElem hkl)
  have ew : ws[k]? = some (.int x) := (List.getElem?_eq_getElem hkl).trans (congrArg some e)
  rw [dc_v1 r]
  unfold dc_vi
  dsimp only
  rw [ew]
  exact ⟨h1, h2⟩
theorem gd_ba {c t n j : Nat} {lo hi : Int} {cs : List Nat} (hh : sx_h sx_SP z L xs h) (hc : sx_cel sx_SP c = some (.inl (t, n, [(lo, hi)], cs))) (h2 : t ≠ 2) (h4 : t ≠ 4) (hj : j < n) : lo ≤ ((dc_vw h).1 c j).toInt ∧ ((dc_vw h).1 c j).toInt ≤ hi := by
  obtain ⟨f, r, hf⟩ := nw_a hc h2 h4 hh
  rw [dc_v1 r]
  exact nw_pc (hf j hj)
/-- a cell that a row of cells holds -/
theorem gd_ra {c n j b : Nat} {ps : List (Int × Int)} {cs : List Nat} (hh : sx_h sx_SP z L xs h) (hc : sx_cel sx_SP c = some (.inl (4, n, ps, cs))) (hj : j < n) (hb : cs[j]? = some b) : (dc_vw h).2.2.1 c j = b := by
  obtain ⟨r1, r2, -⟩ := sx_cel_ok hc hh
  cases he : h.2.2 c with
  | inr w => rw [he] at r2; exact r2.elim
  | inl w =>
    obtain ⟨t', n', f⟩ := w
    rw [he] at r2
    rcases f with f | f | f
    · obtain ⟨q, -, w, -⟩ := r2
      omega
    · obtain ⟨-, -, w⟩ := r2
      omega
    · obtain ⟨-, q2, -, q⟩ := r2
      obtain ⟨x, e1, e2⟩ := q j hj
      rw [hb] at e2
      cases e2
      rw [he] at r1
      rw [dc_v3 r1]
      show (f j).getD 0 = b
      rw [e1]
      rfl
end GD
