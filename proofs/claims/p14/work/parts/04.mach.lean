/-! ===== THE ABSTRACT MACHINE: cells are numbers (0 the script, 1 .. what was made since), a heap is (how many, how many slots, what each is) ===== -/
abbrev ab_I : Type := Instr × Nat × Nat × Nat × Nat × Int × Nat
abbrev ab_P : Type := List (List (Nat × ab_I))
abbrev ab_M : Type := MethodName × ByteArray × Nat × Option FieldType × (Nat × Nat × Nat × Nat × Nat × Nat) × ab_P
abbrev ab_C : Type := (Nat → Int32) ⊕ ((Nat → Int64) ⊕ (Nat → Option Nat))
abbrev ab_E : Type := (Nat × Nat × ab_C) ⊕ (Nat × List Value)
abbrev ab_H : Type := Nat × Nat × (Nat → ab_E)
abbrev ab_L : Type := List (Nat × Value)
abbrev ab_S : Type := Nat × ab_L × List Value × ab_H
/-- a row of a program by its place -/
def ab_fd : List (Nat × ab_I) → Nat → Option ab_I
  | [], _ => none
  | q :: r, pc => if q.1 = pc then some q.2 else ab_fd r pc
def ab_at (P : ab_P) (pc : Nat) : Option ab_I := match P[pc / 16]? with
  | some l => ab_fd l pc
  | none => none
/-- a local -/
def ab_lk : ab_L → Nat → Option Value
  | [], _ => none
  | q :: r, i => if q.1 = i then some q.2 else ab_lk r i
def ab_s1 (i : Nat) (v : Value) (lv : ab_L) : ab_L := (i, v) :: lv.filter (fun q => !(q.1 == i) && !(q.1 + 1 == i && q.2.category == 2))
def ab_s2 (i : Nat) (v : Value) (lv : ab_L) : ab_L := (i, v) :: lv.filter (fun q => !(q.1 == i) && (!(q.1 == i + 1) && !(q.1 + 1 == i && q.2.category == 2)))
/-- the heap: read, write, make -/
def ab_rd (h : ab_H) (a : Nat) : Option ab_E := if a < h.1 then some (h.2.2 a) else none
def ab_wr (h : ab_H) (a : Nat) (e : ab_E) : ab_H := (h.1, h.2.1, va_up h.2.2 a e)
def ab_nw (h : ab_H) (n : Nat) (e : ab_E) : ab_H := (h.1 + 1, h.2.1 + n, va_up h.2.2 h.1 e)
def ab_in (i : Int32) (n : Nat) : Bool := !(decide (i < 0) || decide (n ≤ i.toNatClampNeg))
/-- the default fields of a class -/
def ab_df (ci : Nat) : List Value := (List.range (ab_N ci)).map (fun k => defaultValue (ab_ty ci k))
def ab_fit (ty : FieldType) (v : Value) : Bool := decide (narrow ty v = v) && fits ty v
def ab_cd (c : ClassFile.Cond) (x y : Int32) : Bool := match c with
  | .eq => decide (x = y)
  | .ne => decide (¬ x = y)
  | .lt => decide (x < y)
  | .ge => decide (y ≤ x)
  | .gt => decide (y < x)
  | .le => decide (x ≤ y)
def ab_jp (pc : Nat) (off : Int) (lv : ab_L) (st : List Value) (h : ab_H) : Option ab_S := if 0 ≤ (pc : Int) + off then some (((pc : Int) + off).toNat, lv, st, h) else none
def ab_k (n pc : Nat) (v : Value) (lv : ab_L) (st : List Value) (h : ab_H) : Option ab_S := some (pc + n, lv, v :: st, h)
def ab_ild (i n pc : Nat) (lv : ab_L) (st : List Value) (h : ab_H) : Option ab_S := match ab_lk lv i with
  | some (.int x) => some (pc + n, lv, .int x :: st, h)
  | _ => none
def ab_lld (i n pc : Nat) (lv : ab_L) (st : List Value) (h : ab_H) : Option ab_S := match ab_lk lv i with
  | some (.long x) => some (pc + n, lv, .long x :: st, h)
  | _ => none
def ab_ald (i n pc : Nat) (lv : ab_L) (st : List Value) (h : ab_H) : Option ab_S := match ab_lk lv i with
  | some (.ref x) => some (pc + n, lv, .ref x :: st, h)
  | some (.retAddr x) => some (pc + n, lv, .retAddr x :: st, h)
  | _ => none
def ab_ist (nL i n pc : Nat) (lv : ab_L) (st : List Value) (h : ab_H) : Option ab_S := match st with
  | .int x :: r => if i < nL then some (pc + n, ab_s1 i (.int x) lv, r, h) else none
  | _ => none
def ab_lst (nL i n pc : Nat) (lv : ab_L) (st : List Value) (h : ab_H) : Option ab_S := match st with
  | .long x :: r => if i + 1 < nL then some (pc + n, ab_s2 i (.long x) lv, r, h) else none
  | _ => none
def ab_ast (nL i n pc : Nat) (lv : ab_L) (st : List Value) (h : ab_H) : Option ab_S := match st with
  | .ref x :: r => if i < nL then some (pc + n, ab_s1 i (.ref x) lv, r, h) else none
  | _ => none
def ab_inc (nL i : Nat) (n : Int) (pc : Nat) (lv : ab_L) (st : List Value) (h : ab_H) : Option ab_S := match ab_lk lv i with
  | some (.int x) => if i < nL then some (pc + 3, ab_s1 i (.int (x + Int32.ofInt n)) lv, st, h) else none
  | _ => none
def ab_b1 (f : Int32 → Int32) (pc : Nat) (lv : ab_L) (st : List Value) (h : ab_H) : Option ab_S := match st with
  | .int x :: r => some (pc + 1, lv, .int (f x) :: r, h)
  | _ => none
def ab_b2 (f : Int32 → Int32 → Int32) (pc : Nat) (lv : ab_L) (st : List Value) (h : ab_H) : Option ab_S := match st with
  | .int y :: .int x :: r => some (pc + 1, lv, .int (f x y) :: r, h)
  | _ => none
def ab_dv (f : Int32 → Int32 → Int32) (pc : Nat) (lv : ab_L) (st : List Value) (h : ab_H) : Option ab_S := match st with
  | .int y :: .int x :: r => if y = 0 then none else some (pc + 1, lv, .int (f x y) :: r, h)
  | _ => none
def ab_l2 (f : Int64 → Int64 → Int64) (pc : Nat) (lv : ab_L) (st : List Value) (h : ab_H) : Option ab_S := match st with
  | .long y :: .long x :: r => some (pc + 1, lv, .long (f x y) :: r, h)
  | _ => none
def ab_lc (pc : Nat) (lv : ab_L) (st : List Value) (h : ab_H) : Option ab_S := match st with
  | .long y :: .long x :: r => some (pc + 1, lv, .int (lg_cmp x y) :: r, h)
  | _ => none
def ab_ls (f : Int64 → Int32 → Int64) (pc : Nat) (lv : ab_L) (st : List Value) (h : ab_H) : Option ab_S := match st with
  | .int y :: .long x :: r => some (pc + 1, lv, .long (f x y) :: r, h)
  | _ => none
def ab_il (pc : Nat) (lv : ab_L) (st : List Value) (h : ab_H) : Option ab_S := match st with
  | .int x :: r => some (pc + 1, lv, .long x.toInt64 :: r, h)
  | _ => none
def ab_li (pc : Nat) (lv : ab_L) (st : List Value) (h : ab_H) : Option ab_S := match st with
  | .long x :: r => some (pc + 1, lv, .int x.toInt32 :: r, h)
  | _ => none
def ab_dup (pc : Nat) (lv : ab_L) (st : List Value) (h : ab_H) : Option ab_S := match st with
  | v :: r => if v.category = 1 then some (pc + 1, lv, v :: v :: r, h) else none
  | _ => none
def ab_pop (pc : Nat) (lv : ab_L) (st : List Value) (h : ab_H) : Option ab_S := match st with
  | v :: r => if v.category = 1 then some (pc + 1, lv, r, h) else none
  | _ => none
def ab_dx1 (pc : Nat) (lv : ab_L) (st : List Value) (h : ab_H) : Option ab_S := match st with
  | v :: w :: r => if v.category = 1 ∧ w.category = 1 then some (pc + 1, lv, v :: w :: v :: r, h) else none
  | _ => none
def ab_d2 (pc : Nat) (lv : ab_L) (st : List Value) (h : ab_H) : Option ab_S := match st with
  | v :: w :: r => if v.category = 1 ∧ w.category = 1 then some (pc + 1, lv, v :: w :: v :: w :: r, h) else none
  | _ => none
def ab_if (c : ClassFile.Cond) (off : Int) (pc : Nat) (lv : ab_L) (st : List Value) (h : ab_H) : Option ab_S := match st with
  | .int x :: r => if ab_cd c x 0 = true then ab_jp pc off lv r h else some (pc + 3, lv, r, h)
  | _ => none
def ab_ic (c : ClassFile.Cond) (off : Int) (pc : Nat) (lv : ab_L) (st : List Value) (h : ab_H) : Option ab_S := match st with
  | .int y :: .int x :: r => if ab_cd c x y = true then ab_jp pc off lv r h else some (pc + 3, lv, r, h)
  | _ => none
def ab_tsw (d lo hi : Int) (offs : Array Int) (pc : Nat) (lv : ab_L) (st : List Value) (h : ab_H) : Option ab_S := match st with
  | .int x :: r => if x.toInt < lo ∨ hi < x.toInt then ab_jp pc d lv r h else (match offs[(x.toInt - lo).toNat]? with
    | some off => ab_jp pc off lv r h
    | none => none)
  | _ => none
def ab_lsw (d : Int) (ps : Array (Int × Int)) (pc : Nat) (lv : ab_L) (st : List Value) (h : ab_H) : Option ab_S := match st with
  | .int x :: r => if (ps.toList.zip (ps.toList.drop 1)).all (fun (a, next) => a.1 < next.1) = true then ab_jp pc (Op.lookupswitch.offset ps.toList d x.toInt) lv r h else none
  | _ => none
def ab_get (ci k pc : Nat) (lv : ab_L) (st : List Value) (h : ab_H) : Option ab_S := match st with
  | .ref a :: r => (match ab_rd h a with
    | some (.inr (cj, fs)) => if cj = ci then (match fs[k]? with
      | some v => some (pc + 3, lv, v :: r, h)
      | none => none) else none
    | _ => none)
  | _ => none
def ab_put (ci k pc : Nat) (lv : ab_L) (st : List Value) (h : ab_H) : Option ab_S := match st with
  | v :: .ref a :: r => (match ab_rd h a with
    | some (.inr (cj, fs)) => if cj = ci ∧ k < fs.length ∧ ab_fit (ab_ty ci k) v = true then some (pc + 3, lv, r, ab_wr h a (.inr (cj, fs.set k v))) else none
    | _ => none)
  | _ => none
def ab_ial (pc : Nat) (lv : ab_L) (st : List Value) (h : ab_H) : Option ab_S := match st with
  | .int i :: .ref a :: r => (match ab_rd h a with
    | some (.inl (0, n, .inl f)) => if ab_in i n = true then some (pc + 1, lv, .int (f i.toNatClampNeg) :: r, h) else none
    | _ => none)
  | _ => none
def ab_bal (pc : Nat) (lv : ab_L) (st : List Value) (h : ab_H) : Option ab_S := match st with
  | .int i :: .ref a :: r => (match ab_rd h a with
    | some (.inl (1, n, .inl f)) => if ab_in i n = true then some (pc + 1, lv, .int (f i.toNatClampNeg) :: r, h) else none
    | some (.inl (3, n, .inl f)) => if ab_in i n = true then some (pc + 1, lv, .int (f i.toNatClampNeg) :: r, h) else none
    | _ => none)
  | _ => none
def ab_lal (pc : Nat) (lv : ab_L) (st : List Value) (h : ab_H) : Option ab_S := match st with
  | .int i :: .ref a :: r => (match ab_rd h a with
    | some (.inl (2, n, .inr (.inl f))) => if ab_in i n = true then some (pc + 1, lv, .long (f i.toNatClampNeg) :: r, h) else none
    | _ => none)
  | _ => none
def ab_aal (pc : Nat) (lv : ab_L) (st : List Value) (h : ab_H) : Option ab_S := match st with
  | .int i :: .ref a :: r => (match ab_rd h a with
    | some (.inl (4, n, .inr (.inr f))) => if ab_in i n = true then some (pc + 1, lv, va_rf (f i.toNatClampNeg) :: r, h) else none
    | _ => none)
  | _ => none
def ab_len (pc : Nat) (lv : ab_L) (st : List Value) (h : ab_H) : Option ab_S := match st with
  | .ref a :: r => (match ab_rd h a with
    | some (.inl (t, n, _)) => if t < 5 then some (pc + 1, lv, .int (Int32.ofNat n) :: r, h) else none
    | _ => none)
  | _ => none
def ab_ias (pc : Nat) (lv : ab_L) (st : List Value) (h : ab_H) : Option ab_S := match st with
  | .int x :: .int i :: .ref a :: r => (match ab_rd h a with
    | some (.inl (0, n, .inl f)) => if ab_in i n = true ∧ a ≠ 0 then some (pc + 1, lv, r, ab_wr h a (.inl (0, n, .inl (upd f i.toNatClampNeg x)))) else none
    | _ => none)
  | _ => none
def ab_bas (pc : Nat) (lv : ab_L) (st : List Value) (h : ab_H) : Option ab_S := match st with
  | .int x :: .int i :: .ref a :: r => (match ab_rd h a with
    | some (.inl (1, n, .inl f)) => if ab_in i n = true ∧ a ≠ 0 then some (pc + 1, lv, r, ab_wr h a (.inl (1, n, .inl (upd f i.toNatClampNeg (vp_nar .byte x))))) else none
    | some (.inl (3, n, .inl f)) => if ab_in i n = true ∧ a ≠ 0 then some (pc + 1, lv, r, ab_wr h a (.inl (3, n, .inl (upd f i.toNatClampNeg (vp_nar .boolean x))))) else none
    | _ => none)
  | _ => none
def ab_las (pc : Nat) (lv : ab_L) (st : List Value) (h : ab_H) : Option ab_S := match st with
  | .long x :: .int i :: .ref a :: r => (match ab_rd h a with
    | some (.inl (2, n, .inr (.inl f))) => if ab_in i n = true ∧ a ≠ 0 then some (pc + 1, lv, r, ab_wr h a (.inl (2, n, .inr (.inl (vp_updL f i.toNatClampNeg x))))) else none
    | _ => none)
  | _ => none
def ab_aas (pc : Nat) (lv : ab_L) (st : List Value) (h : ab_H) : Option ab_S := match st with
  | .ref v :: .int i :: .ref a :: r => (match ab_rd h a with
    | some (.inl (4, n, .inr (.inr f))) => (match ab_rd h v with
      | some (.inr (6, _)) => if ab_in i n = true ∧ a ≠ 0 then some (pc + 1, lv, r, ab_wr h a (.inl (4, n, .inr (.inr (va_up f i.toNatClampNeg (some v)))))) else none
      | _ => none)
    | _ => none)
  | _ => none
def ab_new (ci pc : Nat) (lv : ab_L) (st : List Value) (h : ab_H) : Option ab_S := some (pc + 3, lv, .ref h.1 :: st, ab_nw h (ab_N ci) (.inr (ci, ab_df ci)))
def ab_tau (t : ArrayType) : Option (Nat × ab_C) := match t with
  | .int => some (0, .inl (fun _ => 0))
  | .byte => some (1, .inl (fun _ => 0))
  | .long => some (2, .inr (.inl (fun _ => 0)))
  | .boolean => some (3, .inl (fun _ => 0))
  | _ => none
def ab_nwa (t : ArrayType) (pc : Nat) (lv : ab_L) (st : List Value) (h : ab_H) : Option ab_S := match st with
  | .int n :: r => (match ab_tau t with
    | some q => if ¬ n < 0 ∧ n.toNatClampNeg ≤ 100000 then some (pc + 2, lv, .ref h.1 :: r, ab_nw h n.toNatClampNeg (.inl (q.1, n.toNatClampNeg, q.2))) else none
    | none => none)
  | _ => none
def ab_ana (pc : Nat) (lv : ab_L) (st : List Value) (h : ab_H) : Option ab_S := match st with
  | .int n :: r => if ¬ n < 0 ∧ n.toNatClampNeg ≤ 100000 then some (pc + 3, lv, .ref h.1 :: r, ab_nw h n.toNatClampNeg (.inl (4, n.toNatClampNeg, .inr (.inr (fun _ => none))))) else none
  | _ => none
/-! what lies outside the heap: a number k says which (.retAddr k): 0 the row HIGH, 1 to 4 the texts in, out, inner, place, 11 to 14 their bytes, 9 a formatter -/
def ab_hi (i : Nat) : Int64 := [(-6148914691236517206 : Int64), -3689348814741910324, -1085102592571150096, -71777214294589696, -281470681808896, -4294967296].getD i 0
def ab_xt (k : Nat) : List Int32 := match k with
  | 0 => [105, 110]
  | 1 => [111, 117, 116]
  | 2 => [105, 110, 110, 101, 114]
  | _ => [112, 108, 97, 99, 101]
def ab_gs (k pc : Nat) (lv : ab_L) (st : List Value) (h : ab_H) : Option ab_S := match k with
  | 0 => some (pc + 3, lv, .retAddr 0 :: st, h)
  | 1 => some (pc + 3, lv, .int 1 :: st, h)
  | 2 => some (pc + 3, lv, .retAddr 9 :: st, h)
  | _ => none
def ab_lds (k pc : Nat) (lv : ab_L) (st : List Value) (h : ab_H) : Option ab_S := if k < 4 then some (pc + 2, lv, .retAddr (k + 1) :: st, h) else none
def ab_gx (f pc : Nat) (lv : ab_L) (st : List Value) (h : ab_H) : Option ab_S := match st with
  | .retAddr k :: r => if 1 ≤ k ∧ k ≤ 4 then (if f = 0 then some (pc + 3, lv, .retAddr (k + 10) :: r, h) else some (pc + 3, lv, .int 0 :: r, h)) else none
  | _ => none
def ab_lal2 (pc : Nat) (lv : ab_L) (st : List Value) (h : ab_H) : Option ab_S := match st with
  | .int i :: .retAddr k :: r => if k = 0 ∧ ab_in i 6 = true then some (pc + 1, lv, .long (ab_hi i.toNatClampNeg) :: r, h) else none
  | _ => ab_lal pc lv st h
def ab_bal2 (pc : Nat) (lv : ab_L) (st : List Value) (h : ab_H) : Option ab_S := match st with
  | .int i :: .retAddr k :: r => if (11 ≤ k ∧ k ≤ 14) ∧ ab_in i (ab_xt (k - 11)).length = true then some (pc + 1, lv, .int ((ab_xt (k - 11)).getD i.toNatClampNeg 0) :: r, h) else none
  | _ => ab_bal pc lv st h
def ab_len2 (pc : Nat) (lv : ab_L) (st : List Value) (h : ab_H) : Option ab_S := match st with
  | .retAddr k :: r => if 11 ≤ k ∧ k ≤ 14 then some (pc + 1, lv, .int (Int32.ofNat (ab_xt (k - 11)).length) :: r, h) else none
  | _ => ab_len pc lv st h
/-- System.arraycopy of ints -/
def ab_cpy (pc : Nat) (lv : ab_L) (st : List Value) (h : ab_H) : Option ab_S := match st with
  | .int n :: .int dp :: .ref a :: .int sp :: .ref a0 :: r => (match ab_rd h a0 with
    | some (.inl (0, n0, .inl f)) => (match ab_rd h a with
      | some (.inl (0, n1, .inl g)) => if (a ≠ 0 ∧ a0 ≠ 0) ∧ (¬ sp < 0 ∧ ¬ dp < 0 ∧ ¬ n < 0) ∧ (sp.toNatClampNeg + n.toNatClampNeg ≤ n0 ∧ dp.toNatClampNeg + n.toNatClampNeg ≤ n1) ∧ (r.map fun v => v.category).sum ≤ 8 then some (pc + 3, lv, r, ab_wr h a (.inl (0, n1, .inl (va_cpy f g sp.toNatClampNeg dp.toNatClampNeg n.toNatClampNeg)))) else none
      | _ => none)
    | _ => none)
  | _ => none
/-- one step that is no call and no return -/
def ab_sp (nL : Nat) (e : ab_I) (pc : Nat) (lv : ab_L) (st : List Value) (h : ab_H) : Option ab_S := match e.1 with
  | .iconst n => ab_k 1 pc (.int (Int32.ofInt n)) lv st h
  | .bipush n => ab_k 2 pc (.int (Int8.ofInt n).toInt32) lv st h
  | .sipush n => ab_k 3 pc (.int (Int16.ofInt n).toInt32) lv st h
  | .lconst n => ab_k 1 pc (.long (Int64.ofNat (n : Nat))) lv st h
  | .ldc _ => if e.2.2.1 = 7 then ab_lds e.2.2.2.1 pc lv st h else ab_k 2 pc (.int (Int32.ofInt e.2.2.2.2.2.1)) lv st h
  | .ldc_w _ => ab_k 3 pc (.int (Int32.ofInt e.2.2.2.2.2.1)) lv st h
  | .ldc2_w _ => ab_k 3 pc (.long (Int64.ofInt e.2.2.2.2.2.1)) lv st h
  | .iload_n k => ab_ild k.val 1 pc lv st h
  | .iload i => ab_ild i 2 pc lv st h
  | .lload_n k => ab_lld k.val 1 pc lv st h
  | .lload i => ab_lld i 2 pc lv st h
  | .aload_n k => ab_ald k.val 1 pc lv st h
  | .aload i => ab_ald i 2 pc lv st h
  | .istore_n k => ab_ist nL k.val 1 pc lv st h
  | .istore i => ab_ist nL i 2 pc lv st h
  | .lstore_n k => ab_lst nL k.val 1 pc lv st h
  | .lstore i => ab_lst nL i 2 pc lv st h
  | .astore_n k => ab_ast nL k.val 1 pc lv st h
  | .astore i => ab_ast nL i 2 pc lv st h
  | .iinc i n => ab_inc nL i n pc lv st h
  | .iadd => ab_b2 (fun x y => x + y) pc lv st h
  | .isub => ab_b2 (fun x y => x - y) pc lv st h
  | .imul => ab_b2 (fun x y => x * y) pc lv st h
  | .iand => ab_b2 (fun x y => x &&& y) pc lv st h
  | .ior => ab_b2 (fun x y => x ||| y) pc lv st h
  | .ixor => ab_b2 (fun x y => x ^^^ y) pc lv st h
  | .ishl => ab_b2 (fun x y => x <<< (y &&& 31)) pc lv st h
  | .ishr => ab_b2 (fun x y => x >>> (y &&& 31)) pc lv st h
  | .iushr => ab_b2 (fun x y => (x.toUInt32 >>> (y.toUInt32 &&& Int32.toUInt32 31)).toInt32) pc lv st h
  | .idiv => ab_dv (fun x y => x / y) pc lv st h
  | .irem => ab_dv (fun x y => x - x / y * y) pc lv st h
  | .ineg => ab_b1 (fun x => -x) pc lv st h
  | .i2b => ab_b1 (fun x => x.toInt8.toInt32) pc lv st h
  | .i2s => ab_b1 (fun x => x.toInt16.toInt32) pc lv st h
  | .i2c => ab_b1 (fun x => (x.toUInt32 % 65536).toInt32) pc lv st h
  | .i2l => ab_il pc lv st h
  | .l2i => ab_li pc lv st h
  | .ladd => ab_l2 (fun x y => x + y) pc lv st h
  | .lsub => ab_l2 (fun x y => x - y) pc lv st h
  | .lmul => ab_l2 (fun x y => x * y) pc lv st h
  | .land => ab_l2 (fun x y => x &&& y) pc lv st h
  | .lor => ab_l2 (fun x y => x ||| y) pc lv st h
  | .lxor => ab_l2 (fun x y => x ^^^ y) pc lv st h
  | .lcmp => ab_lc pc lv st h
  | .lshl => ab_ls (fun x y => x <<< (y.toInt64 &&& 63)) pc lv st h
  | .lshr => ab_ls (fun x y => x >>> (y.toInt64 &&& 63)) pc lv st h
  | .lushr => ab_ls (fun x y => (x.toUInt64 >>> (y.toInt64.toUInt64 &&& Int64.toUInt64 63)).toInt64) pc lv st h
  | .dup => ab_dup pc lv st h
  | .pop => ab_pop pc lv st h
  | .dup_x1 => ab_dx1 pc lv st h
  | .dup2 => ab_d2 pc lv st h
  | .ifCond c off => ab_if c off pc lv st h
  | .if_icmp c off => ab_ic c off pc lv st h
  | .goto off => ab_jp pc off lv st h
  | .tableswitch d lo hi offs => ab_tsw d lo hi offs pc lv st h
  | .lookupswitch d ps => ab_lsw d ps pc lv st h
  | .getfield _ => if e.2.2.1 = 20 then ab_gx e.2.2.2.1 pc lv st h else ab_get e.2.2.1 e.2.2.2.1 pc lv st h
  | .getstatic _ => ab_gs e.2.2.1 pc lv st h
  | .invokestatic _ => if e.2.2.1 = 8 then ab_cpy pc lv st h else none
  | .putfield _ => ab_put e.2.2.1 e.2.2.2.1 pc lv st h
  | .iaload => ab_ial pc lv st h
  | .baload => ab_bal2 pc lv st h
  | .laload => ab_lal2 pc lv st h
  | .aaload => ab_aal pc lv st h
  | .arraylength => ab_len2 pc lv st h
  | .iastore => ab_ias pc lv st h
  | .bastore => ab_bas pc lv st h
  | .lastore => ab_las pc lv st h
  | .aastore => ab_aas pc lv st h
  | .new _ => ab_new e.2.2.1 pc lv st h
  | .newarray t => ab_nwa t pc lv st h
  | .anewarray _ => ab_ana pc lv st h
  | _ => none
/-- the fixed length of an instruction's row -/
def ab_ln (i : Instr) (len : Nat) : Nat := match i with
  | .tableswitch .. => len
  | .lookupswitch .. => len
  | .bipush _ => 2
  | .sipush _ => 3
  | .ldc _ => 2
  | .ldc_w _ => 3
  | .ldc2_w _ => 3
  | .iload _ => 2
  | .lload _ => 2
  | .aload _ => 2
  | .istore _ => 2
  | .lstore _ => 2
  | .astore _ => 2
  | .iinc .. => 3
  | .ifCond .. => 3
  | .if_icmp .. => 3
  | .goto _ => 3
  | .getfield _ => 3
  | .getstatic _ => 3
  | .putfield _ => 3
  | .new _ => 3
  | .newarray _ => 2
  | .anewarray _ => 3
  | .invokevirtual _ => 3
  | .invokestatic _ => 3
  | .invokespecial _ => 3
  | _ => 1
