/-! ===== the wider checker is sound: every plain step ===== -/
section SXC
variable {SP : List sx_C} {z L : Nat} {xs : Nat → Int32} {Mo : List Nat} {β : Nat → Int} {A B : sx_S} {lv lv' : ab_L} {st st' : List Value} {h h' : ab_H} {l : List (Nat × sx_S)} {pc p n i nL nx : Nat}
theorem sx_z_ki {x : Int32} {m : Nat} (g : sx_ok SP z L xs A β lv st h) (hs : sx_one (pc + m) (sx_p (.inl (0, sx_K x.toInt)) A) = some l) : sx_to SP z L xs Mo (sx_nx A) β h l (ab_k m pc (.int x) lv st h) := by
  cases hs
  exact sx_to.one rfl rfl rfl (g.pu (fun β' _ => by show x.toInt = _; rw [sx_ev_K]))
theorem sx_z_kl {x : Int64} {m : Nat} (g : sx_ok SP z L xs A β lv st h) (hs : sx_one (pc + m) (sx_p (.inl (1, sx_K x.toInt)) A) = some l) : sx_to SP z L xs Mo (sx_nx A) β h l (ab_k m pc (.long x) lv st h) := by
  cases hs
  exact sx_to.one rfl rfl rfl (g.pu (fun β' _ => by show x.toInt = _; rw [sx_ev_K]))
theorem sx_z_ial (g : sx_ok SP z L xs A β lv st h) (hs : sx_ial SP [0] pc A = some l) : sx_to SP z L xs Mo (sx_nx A) β h l (ab_ial pc lv st h) := by
  refine sx_z_ald2 (R := fun st => ab_ial pc lv st h) (fun a t m f x q h1 _ _ hr hi => ?_) (fun a m f x q h1 => absurd h1 (by decide)) (fun a m f x q h1 => absurd h1 (by decide)) (fun x q h1 => absurd h1 (by decide)) (fun k x q h1 => absurd h1 (by decide)) g hs
  have ht : t = 0 := by simpa using h1
  subst ht
  unfold ab_ial
  simp only [hr, if_pos hi]
theorem sx_z_bal (g : sx_ok SP z L xs A β lv st h) (hs : sx_ial SP [1, 3] pc A = some l) : sx_to SP z L xs Mo (sx_nx A) β h l (ab_bal2 pc lv st h) := by
  refine sx_z_ald2 (R := fun st => ab_bal2 pc lv st h) (fun a t m f x q h1 _ _ hr hi => ?_) (fun a m f x q h1 => absurd h1 (by decide)) (fun a m f x q h1 => absurd h1 (by decide)) (fun x q h1 => absurd h1 (by decide)) (fun k x q h1 hk hi => ?_) g hs
  · have ht : t = 1 ∨ t = 3 := by simpa using h1
    unfold ab_bal2 ab_bal
    rcases ht with ht | ht <;> subst ht <;> simp only [hr, if_pos hi]
  · unfold ab_bal2
    dsimp only
    rw [if_pos ⟨hk, hi⟩]
theorem sx_z_lal (g : sx_ok SP z L xs A β lv st h) (hs : sx_ial SP [2] pc A = some l) : sx_to SP z L xs Mo (sx_nx A) β h l (ab_lal2 pc lv st h) := by
  refine sx_z_ald2 (R := fun st => ab_lal2 pc lv st h) (fun a t m f x q h1 h2 => absurd (show t = 2 by simpa using h1) h2) (fun a m f x q h1 hr hi => ?_) (fun a m f x q h1 => absurd h1 (by decide)) (fun x q h1 hi => ?_) (fun k x q h1 => absurd h1 (by decide)) g hs
  · unfold ab_lal2 ab_lal
    simp only [hr, if_pos hi]
  · unfold ab_lal2
    dsimp only
    rw [if_pos ⟨rfl, hi⟩]
theorem sx_z_aal (g : sx_ok SP z L xs A β lv st h) (hs : sx_ial SP [4] pc A = some l) : sx_to SP z L xs Mo (sx_nx A) β h l (ab_aal pc lv st h) := by
  refine sx_z_ald2 (R := fun st => ab_aal pc lv st h) (fun a t m f x q h1 _ h2 => absurd (show t = 4 by simpa using h1) h2) (fun a m f x q h1 => absurd h1 (by decide)) (fun a m f x q h1 hr hi => ?_) (fun x q h1 => absurd h1 (by decide)) (fun k x q h1 => absurd h1 (by decide)) g hs
  unfold ab_aal
  simp only [hr, if_pos hi]
theorem sx_z_ias (g : sx_ok SP z L xs A β lv st h) (hs : sx_ias SP Mo [0] pc A = some l) : sx_to SP z L xs Mo (sx_nx A) β h l (ab_ias pc lv st h) := by
  refine sx_z_ast2 (R := fun st => ab_ias pc lv st h) (fun a t m f i x q h1 _ hr hi ha => ?_) (fun a m f i x q h1 => absurd h1 (by decide)) g hs
  have ht : t = 0 := by simpa using h1
  subst ht
  unfold ab_ias
  simp only [hr]
  rw [if_pos ⟨hi, ha⟩]
theorem sx_z_bas (g : sx_ok SP z L xs A β lv st h) (hs : sx_ias SP Mo [1, 3] pc A = some l) : sx_to SP z L xs Mo (sx_nx A) β h l (ab_bas pc lv st h) := by
  refine sx_z_ast2 (R := fun st => ab_bas pc lv st h) (fun a t m f i x q h1 hc hr hi ha => ?_) (fun a m f i x q h1 => absurd h1 (by decide)) g hs
  have ht : t = 1 ∨ t = 3 := by simpa using h1
  rcases ht with ht | ht
  · subst ht
    have hb : -128 ≤ x.toInt ∧ x.toInt ≤ 127 := by omega
    unfold ab_bas
    simp only [hr]
    rw [if_pos ⟨hi, ha⟩, vp_nar_byte, sx_b8e x hb.1 hb.2]
  · subst ht
    have hb : 0 ≤ x.toInt ∧ x.toInt ≤ 1 := by omega
    have e : vp_nar .boolean x = x := by
      rcases sx_fitb hb.1 hb.2 with e | e <;> subst e <;> decide
    unfold ab_bas
    simp only [hr]
    rw [if_pos ⟨hi, ha⟩, e]
theorem sx_z_las (g : sx_ok SP z L xs A β lv st h) (hs : sx_ias SP Mo [2] pc A = some l) : sx_to SP z L xs Mo (sx_nx A) β h l (ab_las pc lv st h) := by
  refine sx_z_ast2 (R := fun st => ab_las pc lv st h) (fun a t m f i x q h1 hc => ?_) (fun a m f i x q h1 hr hi ha => ?_) g hs
  · have ht : t = 2 := by simpa using h1
    omega
  · unfold ab_las
    simp only [hr]
    rw [if_pos ⟨hi, ha⟩]
theorem sx_fullop {f : Int64 → Int64 → Int64} : sx_opl SP z L xs lv h f (fun p _ _ A => sx_full 1 p A) := fun p x y A st l β a b _ _ g hs => sx_full_ok (sx_vl (f a b)) g hs
theorem sx_sp_ok {it : ab_I} (g : sx_ok SP z L xs A β lv st h) (hs : sx_sp SP Mo nL it pc A = some l) : sx_to SP z L xs Mo (sx_nx A) β h l (ab_sp nL it pc lv st h) := by
  obtain ⟨i, len, r0, r1, r2, cst, ix⟩ := it
  cases i with
  | iconst n => exact sx_z_ki g hs
  | bipush n => exact sx_z_ki g hs
  | sipush n => exact sx_z_ki g hs
  | lconst n => exact sx_z_kl g hs
  | ldc k =>
    unfold sx_sp at hs
    unfold ab_sp
    dsimp only at hs ⊢
    split at hs
    · rename_i h7
      rw [if_pos h7]
      split at hs
      · rename_i h4
        cases hs
        exact sx_to.one (if_pos h4) rfl rfl (g.pu (fun β' _ => rfl))
      · cases hs
    · rename_i h7
      rw [if_neg h7]
      exact sx_z_ki g hs
  | ldc_w k => exact sx_z_ki g hs
  | ldc2_w k => exact sx_z_kl g hs
  | iload_n k => exact sx_z_ild g hs
  | iload k => exact sx_z_ild g hs
  | lload_n k => exact sx_z_lld g hs
  | lload k => exact sx_z_lld g hs
  | aload_n k => exact sx_z_ald g hs
  | aload k => exact sx_z_ald g hs
  | istore_n k => exact sx_z_ist g hs
  | istore k => exact sx_z_ist g hs
  | lstore_n k => exact sx_z_lst g hs
  | lstore k => exact sx_z_lst g hs
  | astore_n k => exact sx_z_ast g hs
  | astore k => exact sx_z_ast g hs
  | iinc k n => exact sx_z_inc g hs
  | iadd => exact sx_z_b2 sx_oadd_ok g hs
  | isub => exact sx_z_b2 sx_osub_ok g hs
  | imul => exact sx_z_b2 sx_omul_ok g hs
  | iand => exact sx_z_b2 (sx_cc_ok sx_oand_ok) g hs
  | ior => exact sx_z_b2 (sx_cc_ok sx_oor_ok) g hs
  | ixor => exact sx_z_b2 (sx_cc_ok sx_oxor_ok) g hs
  | ishl => exact sx_z_b2 (sx_cc_ok sx_oshl_ok) g hs
  | ishr => exact sx_z_b2 (sx_cc_ok sx_oshr_ok) g hs
  | iushr => exact sx_z_b2 sx_oushr_ok g hs
  | idiv => exact sx_z_dv sx_odiv_ok g hs
  | irem => exact sx_z_dv sx_orem_ok g hs
  | ineg => exact sx_z_b1 sx_oneg_ok g hs
  | i2b => exact sx_z_b1 (sx_nar_ok sx_b8 sx_b8e) g hs
  | i2s => exact sx_z_b1 (sx_nar_ok sx_b16 sx_b16e) g hs
  | i2c => exact sx_z_b1 (sx_nar_ok sx_ch sx_che) g hs
  | i2l => exact sx_z_il g hs
  | l2i => exact sx_z_li g hs
  | ladd => exact sx_z_l2 sx_laddok g hs
  | lsub => exact sx_z_l2 sx_lsubok g hs
  | lmul => exact sx_z_l2 sx_fullop g hs
  | land => exact sx_z_l2 sx_landok g hs
  | lor => exact sx_z_l2 sx_fullop g hs
  | lxor => exact sx_z_l2 sx_fullop g hs
  | lcmp => exact sx_z_lc g hs
  | lshl => exact sx_z_ls g hs
  | lshr => exact sx_z_ls g hs
  | lushr => exact sx_z_ls g hs
  | dup => exact sx_z_dup g hs
  | pop => exact sx_z_pop g hs
  | dup_x1 => exact sx_z_dx1 g hs
  | dup2 => exact sx_z_d2 g hs
  | ifCond c off => exact sx_z_if g hs
  | if_icmp c off => exact sx_z_ic g hs
  | goto off => exact sx_z_goto g hs
  | tableswitch d lo hi offs => exact sx_z_tsw g hs
  | lookupswitch d ps => exact sx_z_lsw g hs
  | getfield k =>
    unfold sx_sp at hs
    unfold ab_sp
    dsimp only at hs ⊢
    split at hs
    · rename_i h7
      rw [if_pos h7]
      exact sx_z_gx g hs
    · rename_i h7
      rw [if_neg h7]
      exact sx_z_get g hs
  | getstatic k => exact sx_z_gs g hs
  | putfield k => exact sx_z_put g hs
  | invokestatic k =>
    unfold sx_sp at hs
    unfold ab_sp
    dsimp only at hs ⊢
    split at hs
    · rename_i h7
      rw [if_pos h7]
      exact sx_z_cpy g hs
    · cases hs
  | iaload => exact sx_z_ial g hs
  | baload => exact sx_z_bal g hs
  | laload => exact sx_z_lal g hs
  | aaload => exact sx_z_aal g hs
  | arraylength => exact sx_z_len g hs
  | iastore => exact sx_z_ias g hs
  | bastore => exact sx_z_bas g hs
  | lastore => exact sx_z_las g hs
  | _ => cases hs
end SXC
