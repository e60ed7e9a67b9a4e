/-- the cells that fields hold -/
def dc_rt : List (Nat × Nat × Nat) := [(8, 2, 1), (9, 2, 2), (128, 2, 1), (130, 2, 2), (131, 2, 3), (132, 2, 4), (133, 2, 5), (134, 2, 6), (135, 2, 7), (136, 2, 8), (257, 2, 1), (258, 2, 2), (387, 2, 1), (388, 2, 2), (389, 2, 3), (390, 2, 4), (391, 2, 5), (392, 2, 6), (393, 2, 7), (394, 2, 8), (395, 2, 9), (396, 2, 10), (512, 2, 1), (644, 2, 1), (645, 2, 2), (646, 2, 3), (648, 3, 0), (649, 3, 0), (650, 2, 6), (769, 2, 1), (900, 2, 1), (901, 2, 2), (902, 2, 3), (903, 2, 4), (904, 2, 5), (905, 2, 6), (906, 2, 7), (1024, 2, 1), (1025, 2, 2), (1026, 2, 3), (1027, 2, 4), (1028, 2, 5), (1029, 2, 6), (1152, 2, 1), (1153, 2, 3), (1154, 2, 11), (1155, 2, 14), (1156, 2, 29), (1157, 2, 36), (1158, 2, 39), (1159, 3, 0), (1160, 3, 0), (1161, 2, 62), (1162, 2, 70), (1281, 2, 1), (1282, 2, 2), (1284, 2, 3), (1285, 2, 4), (1286, 2, 5), (1287, 2, 6), (1288, 2, 7), (1289, 2, 8), (1292, 2, 9), (1302, 2, 10), (1303, 2, 11), (1305, 2, 12), (1306, 2, 13), (1307, 2, 14), (1308, 2, 15), (1309, 2, 16), (1314, 2, 17), (1315, 2, 18), (1316, 2, 19), (1318, 2, 20), (1330, 2, 21), (1331, 2, 22), (1332, 2, 23), (1333, 2, 24), (1334, 2, 25), (1335, 2, 26), (1336, 2, 27), (1339, 2, 28), (1340, 2, 29), (1341, 2, 30), (1342, 2, 31), (1343, 2, 32), (1345, 2, 33), (1346, 2, 34), (1347, 2, 35), (1348, 2, 36), (1349, 2, 37)]
def dc_rl : List (Nat × Nat × Nat) → Nat → Nat × Nat
  | [], _ => (4, 0)
  | q :: r, i => if q.1 = i then q.2 else dc_rl r i
def dc_ro (ci k : Nat) : Nat × Nat := dc_rl dc_rt (ci * 128 + k)
/-! ===== THE PURE MACHINE: memory as functions of cell and place; what a block of code does is a tree with its ends ===== -/
abbrev dc_M : Type := (Nat → Nat → Int32) × (Nat → Nat → Int64) × (Nat → Nat → Nat) × (Nat → Nat × Nat)
def dc_wi (m : dc_M) (a k : Nat) (v : Int32) : dc_M := (fun b j => if b = a ∧ j = k then v else m.1 b j, m.2)
def dc_wl (m : dc_M) (a k : Nat) (v : Int64) : dc_M := (m.1, fun b j => if b = a ∧ j = k then v else m.2.1 b j, m.2.2)
def dc_wr (m : dc_M) (a k : Nat) (v : Nat) : dc_M := (m.1, m.2.1, fun b j => if b = a ∧ j = k then v else m.2.2.1 b j, m.2.2.2)
def dc_cp (m : dc_M) (a0 sp a dp n : Nat) : dc_M := (fun b j => if b = a then va_cpy (m.1 a0) (m.1 a) sp dp n j else m.1 b j, m.2)
/-! what of a heap is seen -/
def dc_vi (e : ab_E) (k : Nat) : Int32 := match e with
  | .inl (_, _, .inl f) => f k
  | .inr (_, ws) => (match ws[k]? with
    | some (.int x) => x
    | _ => 0)
  | _ => 0
def dc_vl (e : ab_E) (k : Nat) : Int64 := match e with
  | .inl (_, _, .inr (.inl f)) => f k
  | .inr (_, ws) => (match ws[k]? with
    | some (.long x) => x
    | _ => 0)
  | _ => 0
def dc_vr (e : ab_E) (k : Nat) : Nat := match e with
  | .inl (_, _, .inr (.inr f)) => (f k).getD 0
  | .inr (_, ws) => (match ws[k]? with
    | some (.ref x) => x
    | _ => 0)
  | _ => 0
def dc_vt (e : ab_E) : Nat × Nat := match e with
  | .inl (t, n, _) => (t, n)
  | .inr _ => (0, 0)
def dc_vw (h : ab_H) : dc_M := (fun a k => dc_vi (h.2.2 a) k, fun a k => dc_vl (h.2.2 a) k, fun a k => dc_vr (h.2.2 a) k, fun a => dc_vt (h.2.2 a))
/-- a field: 0 an int, 1 a long, 2 the cell so far behind its own, 3 some cell, 4 unknown -/
def dc_fk (u ci k : Nat) : Nat × Nat := match ab_ty ci k with
  | .long => (1, 0)
  | .int => (0, 0)
  | .boolean => (0, 0)
  | .byte => (0, 0)
  | .object _ => if ci = 4 ∧ k = 8 then (u, 0) else dc_ro ci k
  | .array _ => dc_ro ci k
  | _ => (4, 0)
def dc_fo (q : Nat × Nat) (a : Nat) (v : Value) : Prop := match q.1 with
  | 0 => ∃ x, v = .int x
  | 1 => ∃ x, v = .long x
  | 2 => v = .ref (a + q.2)
  | 3 => ∃ b, v = .ref b
  | 4 => v = .null ∨ ∃ b, v = .ref b
  | _ => True
def dc_we (u a : Nat) (e : ab_E) : Prop := match e with
  | .inr (ci, ws) => (ci = 4 → a = 2) ∧ ∀ k v, ws[k]? = some v → dc_fo (dc_fk u ci k) a v
  | .inl (_, n, .inr (.inr f)) => ∀ j, j < n → ∃ b, f j = some b
  | _ => True
def dc_wf (u : Nat) (h : ab_H) : Prop := ∀ a, a < h.1 → dc_we u a (h.2.2 a)
/-! the ends of a block: a return; a place (with locals that are looked at, and the stack); or nothing is known -/
abbrev dc_X : Type := (Option Value × dc_M) ⊕ ((Nat × List (Nat × Option Value) × List Value × dc_M) ⊕ Unit)
def dc_kz : Option dc_X := some (.inr (.inr ()))
abbrev dc_K : Type := Nat → ab_L → List Value → dc_M → Option dc_X
abbrev dc_H : Type := List Value → dc_M → (Option Value → dc_M → Option dc_X) → Option dc_X
def dc_lu {β : Type} : List (Nat × β) → Nat → Option β
  | [], _ => none
  | q :: r, i => if q.1 = i then some q.2 else dc_lu r i
def dc_let {α β : Type} (x : α) (f : α → β) : β := f x
def dc_dci (c : ClassFile.Cond) (a b : Int) : Decidable (ab_ci c a b) := match c with
  | .eq => inferInstanceAs (Decidable (a = b))
  | .ne => inferInstanceAs (Decidable (¬ a = b))
  | .lt => inferInstanceAs (Decidable (a < b))
  | .ge => inferInstanceAs (Decidable (b ≤ a))
  | .gt => inferInstanceAs (Decidable (b < a))
  | .le => inferInstanceAs (Decidable (a ≤ b))
def dc_tg (pc : Nat) (off : Int) : Nat := ((pc : Int) + off).toNat
def dc_ld (i pc : Nat) (L : ab_L) (st : List Value) (m : dc_M) (k : dc_K) : Option dc_X := match ab_lk L i with
  | some v => k pc L (v :: st) m
  | none => dc_kz
def dc_kp (i : Nat) (two : Bool) (L : ab_L) (j : Nat) : Bool := !(j == i) && (!(two && j == i + 1) && !(j + 1 == i && (match ab_lk L j with
  | some w => w.category == 2
  | none => false)))
def dc_sv (i : Nat) (two : Bool) (v : Value) (L : ab_L) : ab_L := (i, v) :: L.filter (fun q => dc_kp i two L q.1)
def dc_s1 (i pc : Nat) (L : ab_L) (st : List Value) (m : dc_M) (k : dc_K) : Option dc_X := match st with
  | v :: r => k pc (dc_sv i false v L) r m
  | _ => dc_kz
def dc_s2 (i pc : Nat) (L : ab_L) (st : List Value) (m : dc_M) (k : dc_K) : Option dc_X := match st with
  | v :: r => k pc (dc_sv i true v L) r m
  | _ => dc_kz
def dc_inc (i : Nat) (n : Int) (pc : Nat) (L : ab_L) (st : List Value) (m : dc_M) (k : dc_K) : Option dc_X := match ab_lk L i with
  | some (.int x) => k (pc + 3) (dc_sv i false (.int (x + Int32.ofInt n)) L) st m
  | _ => dc_kz
def dc_if (c : ClassFile.Cond) (off : Int) (pc : Nat) (L : ab_L) (st : List Value) (m : dc_M) (k : dc_K) : Option dc_X := match st with
  | .int x :: r => @ite _ (ab_ci c x.toInt 0) (dc_dci c x.toInt 0) (k (dc_tg pc off) L r m) (k (pc + 3) L r m)
  | _ => dc_kz
def dc_ic (c : ClassFile.Cond) (off : Int) (pc : Nat) (L : ab_L) (st : List Value) (m : dc_M) (k : dc_K) : Option dc_X := match st with
  | .int y :: .int x :: r => @ite _ (ab_ci c x.toInt y.toInt) (dc_dci c x.toInt y.toInt) (k (dc_tg pc off) L r m) (k (pc + 3) L r m)
  | _ => dc_kz
def dc_ts (x : Int) (d : Nat) (k : Nat → Option dc_X) : List (Int × Nat) → Option dc_X
  | [] => k d
  | q :: r => if x = q.1 then k q.2 else dc_ts x d k r
/-- the ends of a table, by number -/
def dc_tl (pc : Nat) : Int → List Int → List (Int × Nat)
  | _, [] => []
  | lo, o :: r => (lo, dc_tg pc o) :: dc_tl pc (lo + 1) r
def dc_get (u ci fk pc : Nat) (L : ab_L) (st : List Value) (m : dc_M) (k : dc_K) : Option dc_X := match st with
  | .ref a :: r => if ci = 20 then dc_kz else (match dc_fk u ci fk with
    | (0, _) => k (pc + 3) L (.int (m.1 a fk) :: r) m
    | (1, _) => k (pc + 3) L (.long (m.2.1 a fk) :: r) m
    | (2, o) => k (pc + 3) L (.ref (a + o) :: r) m
    | (3, _) => k (pc + 3) L (.ref (m.2.2.1 a fk) :: r) m
    | _ => dc_kz)
  | .retAddr q :: r => if ci = 20 then (if fk = 0 then k (pc + 3) L (.retAddr (q + 10) :: r) m else k (pc + 3) L (.int 0 :: r) m) else dc_kz
  | _ => dc_kz
def dc_put (u ci fk pc : Nat) (L : ab_L) (st : List Value) (m : dc_M) (k : dc_K) : Option dc_X := match st with
  | .int x :: .ref a :: r => (match dc_fk u ci fk with
    | (0, _) => k (pc + 3) L r (dc_wi m a fk x)
    | _ => dc_kz)
  | .long x :: .ref a :: r => (match dc_fk u ci fk with
    | (1, _) => k (pc + 3) L r (dc_wl m a fk x)
    | _ => dc_kz)
  | .ref x :: .ref a :: r => (match dc_fk u ci fk with
    | (3, _) => k (pc + 3) L r (dc_wr m a fk x)
    | _ => dc_kz)
  | _ => dc_kz
def dc_ial (pc : Nat) (L : ab_L) (st : List Value) (m : dc_M) (k : dc_K) : Option dc_X := match st with
  | .int i :: .ref a :: r => k (pc + 1) L (.int (m.1 a i.toNatClampNeg) :: r) m
  | _ => dc_kz
def dc_bal (pc : Nat) (L : ab_L) (st : List Value) (m : dc_M) (k : dc_K) : Option dc_X := match st with
  | .int i :: .ref a :: r => k (pc + 1) L (.int (m.1 a i.toNatClampNeg) :: r) m
  | .int i :: .retAddr q :: r => k (pc + 1) L (.int ((ab_xt (q - 11)).getD i.toNatClampNeg 0) :: r) m
  | _ => dc_kz
def dc_lal (pc : Nat) (L : ab_L) (st : List Value) (m : dc_M) (k : dc_K) : Option dc_X := match st with
  | .int i :: .ref a :: r => k (pc + 1) L (.long (m.2.1 a i.toNatClampNeg) :: r) m
  | .int i :: .retAddr _ :: r => k (pc + 1) L (.long (ab_hi i.toNatClampNeg) :: r) m
  | _ => dc_kz
def dc_aal (pc : Nat) (L : ab_L) (st : List Value) (m : dc_M) (k : dc_K) : Option dc_X := match st with
  | .int i :: .ref a :: r => k (pc + 1) L (.ref (m.2.2.1 a i.toNatClampNeg) :: r) m
  | _ => dc_kz
def dc_len (pc : Nat) (L : ab_L) (st : List Value) (m : dc_M) (k : dc_K) : Option dc_X := match st with
  | .ref a :: r => k (pc + 1) L (.int (Int32.ofNat (m.2.2.2 a).2) :: r) m
  | .retAddr q :: r => k (pc + 1) L (.int (Int32.ofNat (ab_xt (q - 11)).length) :: r) m
  | _ => dc_kz
def dc_ias (pc : Nat) (L : ab_L) (st : List Value) (m : dc_M) (k : dc_K) : Option dc_X := match st with
  | .int x :: .int i :: .ref a :: r => k (pc + 1) L r (dc_wi m a i.toNatClampNeg x)
  | _ => dc_kz
def dc_nar (t : Nat) (x : Int32) : Int32 := if t = 1 then vp_nar .byte x else vp_nar .boolean x
def dc_bas (pc : Nat) (L : ab_L) (st : List Value) (m : dc_M) (k : dc_K) : Option dc_X := match st with
  | .int x :: .int i :: .ref a :: r => k (pc + 1) L r (dc_wi m a i.toNatClampNeg (dc_nar (m.2.2.2 a).1 x))
  | _ => dc_kz
def dc_las (pc : Nat) (L : ab_L) (st : List Value) (m : dc_M) (k : dc_K) : Option dc_X := match st with
  | .long x :: .int i :: .ref a :: r => k (pc + 1) L r (dc_wl m a i.toNatClampNeg x)
  | _ => dc_kz
def dc_ret (st : List Value) (m : dc_M) : Option dc_X := match st with
  | [v] => some (.inl (some v, m))
  | _ => dc_kz
def dc_cpy (pc : Nat) (L : ab_L) (st : List Value) (m : dc_M) (k : dc_K) : Option dc_X := match st with
  | .int n :: .int dp :: .ref a :: .int sp :: .ref a0 :: r => k (pc + 3) L r (dc_cp m a0 sp.toNatClampNeg a dp.toNatClampNeg n.toNatClampNeg)
  | _ => dc_kz
def dc_cal (C : List (Nat × dc_H)) (it : ab_I) (pc : Nat) (L : ab_L) (st : List Value) (m : dc_M) (k : dc_K) : Option dc_X :=
  if it.2.2.1 = 5 then dc_kz else
  if it.2.2.1 = 8 then dc_cpy pc L st m k else
  (match ab_G it.2.2.2.1, dc_lu C it.2.2.2.1 with
    | none, _ => none
    | some _, none => dc_kz
    | some _, some hd => if it.2.2.1 = 1 ∨ it.2.2.1 = 3 then hd (st.take it.2.2.2.2.1).reverse m (fun r m1 => k (pc + 3) L (r.toList ++ st.drop it.2.2.2.2.1) m1)
      else (match st.drop it.2.2.2.2.1 with
        | v :: rest => hd (v :: (st.take it.2.2.2.2.1).reverse) m (fun r m1 => k (pc + 3) L (r.toList ++ rest) m1)
        | [] => dc_kz))
/-- neither a local nor the heap is looked at -/
def dc_isp (i : Instr) : Bool := match i with
  | .iconst _ => true
  | .bipush _ => true
  | .sipush _ => true
  | .lconst _ => true
  | .ldc _ => true
  | .ldc_w _ => true
  | .ldc2_w _ => true
  | .iadd => true
  | .isub => true
  | .imul => true
  | .iand => true
  | .ior => true
  | .ixor => true
  | .ishl => true
  | .ishr => true
  | .iushr => true
  | .ineg => true
  | .i2b => true
  | .i2s => true
  | .i2c => true
  | .i2l => true
  | .l2i => true
  | .ladd => true
  | .lsub => true
  | .lmul => true
  | .land => true
  | .lor => true
  | .lxor => true
  | .lcmp => true
  | .lshl => true
  | .lshr => true
  | .lushr => true
  | .dup => true
  | .pop => true
  | .dup_x1 => true
  | .dup2 => true
  | .goto _ => true
  | .getstatic _ => true
  | _ => false
def dc_h0 : ab_H := (0, 0, fun _ => .inr (0, []))
def dc_pl (nL : Nat) (it : ab_I) (pc : Nat) (L : ab_L) (st : List Value) (m : dc_M) (k : dc_K) : Option dc_X := match dc_isp it.1 with
  | true => (match ab_sp nL it pc [] st dc_h0 with
    | some s => k s.1 L s.2.2.1 m
    | none => dc_kz)
  | false => dc_kz
def dc_dv (f : Int32 → Int32 → Int32) (pc : Nat) (L : ab_L) (st : List Value) (m : dc_M) (k : dc_K) : Option dc_X := match st with
  | .int y :: .int x :: r => k (pc + 1) L (.int (f x y) :: r) m
  | _ => dc_kz
/-- one instruction -/
def dc_one (u : Nat) (C : List (Nat × dc_H)) (nL : Nat) (it : ab_I) (pc : Nat) (L : ab_L) (st : List Value) (m : dc_M) (k : dc_K) : Option dc_X := match it.1 with
  | .iload_n i => dc_ld i.val (pc + 1) L st m k
  | .iload i => dc_ld i (pc + 2) L st m k
  | .lload_n i => dc_ld i.val (pc + 1) L st m k
  | .lload i => dc_ld i (pc + 2) L st m k
  | .aload_n i => dc_ld i.val (pc + 1) L st m k
  | .aload i => dc_ld i (pc + 2) L st m k
  | .istore_n i => dc_s1 i.val (pc + 1) L st m k
  | .istore i => dc_s1 i (pc + 2) L st m k
  | .lstore_n i => dc_s2 i.val (pc + 1) L st m k
  | .lstore i => dc_s2 i (pc + 2) L st m k
  | .astore_n i => dc_s1 i.val (pc + 1) L st m k
  | .astore i => dc_s1 i (pc + 2) L st m k
  | .iinc i n => dc_inc i n pc L st m k
  | .ifCond c off => dc_if c off pc L st m k
  | .if_icmp c off => dc_ic c off pc L st m k
  | .tableswitch d lo hi offs => (match st with
    | .int x :: r => if lo + (offs.toList.length : Int) = hi + 1 then dc_ts x.toInt (dc_tg pc d) (fun p => k p L r m) (dc_tl pc lo offs.toList) else dc_kz
    | _ => dc_kz)
  | .lookupswitch d ps => (match st with
    | .int x :: r => dc_ts x.toInt (dc_tg pc d) (fun p => k p L r m) (ps.toList.map (fun q => (q.1, dc_tg pc q.2)))
    | _ => dc_kz)
  | .getfield _ => dc_get u it.2.2.1 it.2.2.2.1 pc L st m k
  | .putfield _ => dc_put u it.2.2.1 it.2.2.2.1 pc L st m k
  | .iaload => dc_ial pc L st m k
  | .baload => dc_bal pc L st m k
  | .laload => dc_lal pc L st m k
  | .aaload => dc_aal pc L st m k
  | .arraylength => dc_len pc L st m k
  | .iastore => dc_ias pc L st m k
  | .bastore => dc_bas pc L st m k
  | .lastore => dc_las pc L st m k
  | .idiv => dc_dv (fun x y => x / y) pc L st m k
  | .irem => dc_dv (fun x y => x - x / y * y) pc L st m k
  | .ireturn => dc_ret st m
  | .lreturn => dc_ret st m
  | .return_ => some (.inl (none, m))
  | .invokevirtual _ => dc_cal C it pc L st m k
  | .invokestatic _ => dc_cal C it pc L st m k
  | .invokespecial _ => dc_cal C it pc L st m k
  | _ => dc_pl nL it pc L st m k
/-- a block: until a return, or a place of S (each with the locals that are looked at from there on) -/
def dc_pm (u : Nat) (C : List (Nat × dc_H)) (S : List (Nat × List Nat)) (M : ab_M) : Nat → Nat → ab_L → List Value → dc_M → Option dc_X
  | 0, _, _, _, _ => dc_kz
  | n + 1, pc, L, st, m => match ab_at M.2.2.2.2.2 pc with
    | none => dc_kz
    | some it => dc_one u C M.2.2.1 it pc L st m (fun pc' L' st' m' => match dc_lu S pc' with
      | some li => some (.inr (.inl (pc', li.map (fun i => (i, ab_lk L' i)), st', m')))
      | none => dc_pm u C S M n pc' L' st' m')
