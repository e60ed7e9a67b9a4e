/-! ===== one step of the wider checker: the states that may follow (none: it cannot tell) ===== -/
abbrev sx_R : Type := Option (List (Nat × sx_S))
def sx_p (v : sx_V) (A : sx_S) : sx_S := (A.1, v :: A.2.1, A.2.2)
def sx_k (st : List sx_V) (A : sx_S) : sx_S := (A.1, st, A.2.2)
def sx_nx (A : sx_S) : Nat := A.2.2.2.2.2.2
def sx_new (l u : Int) (A : sx_S) : sx_S := (A.1, A.2.1, A.2.2.1, A.2.2.2.1, (sx_nx A, l, u) :: A.2.2.2.2.1, A.2.2.2.2.2.1, sx_nx A + 1)
def sx_fa (es : List sx_E) (A : sx_S) : sx_S := (A.1, A.2.1, A.2.2.1, A.2.2.2.1, A.2.2.2.2.1, A.2.2.2.2.2.1 ++ es, A.2.2.2.2.2.2)
def sx_one (pc : Nat) (A : sx_S) : sx_R := some [(pc, A)]
def sx_mn (kd : Nat) : Int := if kd = 0 then -2147483648 else -9223372036854775808
def sx_mx (kd : Nat) : Int := if kd = 0 then 2147483647 else 9223372036854775807
def sx_cl (kd : Nat) (l u : Int) : Int × Int := if sx_mn kd ≤ l ∧ u ≤ sx_mx kd then (l, u) else (sx_mn kd, sx_mx kd)
/-- a new number within l .. u -/
def sx_fp1 (kd : Nat) (b : Int × Int) (pc : Nat) (A : sx_S) : sx_R := if b.1 = b.2 then sx_one pc (sx_p (.inl (kd, sx_K b.1)) A) else sx_one pc (sx_p (.inl (kd, sx_Y (sx_nx A))) (sx_new b.1 b.2 A))
def sx_fp (kd : Nat) (l u : Int) (pc : Nat) (A : sx_S) : sx_R := sx_fp1 kd (sx_cl kd l u) pc A
def sx_full (kd : Nat) (pc : Nat) (A : sx_S) : sx_R := sx_fp1 kd (sx_mn kd, sx_mx kd) pc A
def sx_li (kd : Nat) (e : sx_E) (pc : Nat) (A : sx_S) : sx_R := if sx_in A (sx_mn kd) (sx_mx kd) e = true then sx_one pc (sx_p (.inl (kd, e)) A) else sx_full kd pc A
def sx_bd (A : sx_S) (e : sx_E) : Option (Int × Int) := match sx_lo A e, sx_up A e with
  | some l, some u => some (l, u)
  | _, _ => none
def sx_lk (i : Nat) : List (Nat × sx_V) → Option sx_V
  | [] => none
  | q :: r => if q.1 = i then some q.2 else sx_lk i r
def sx_two (v : sx_V) : Bool := match v with
  | .inl (1, _) => true
  | _ => false
def sx_s1 (i : Nat) (v : sx_V) (lv : List (Nat × sx_V)) : List (Nat × sx_V) := (i, v) :: lv.filter (fun q => !(q.1 == i) && !(q.1 + 1 == i && sx_two q.2))
def sx_s2 (i : Nat) (v : sx_V) (lv : List (Nat × sx_V)) : List (Nat × sx_V) := (i, v) :: lv.filter (fun q => !(q.1 == i) && (!(q.1 == i + 1) && !(q.1 + 1 == i && sx_two q.2)))
/-- loads: 0 ints, 1 longs, 2 cells -/
def sx_ld (k i n pc : Nat) (A : sx_S) : sx_R := match sx_lk i A.1 with
  | some (.inl (0, e)) => if k = 0 then sx_one (pc + n) (sx_p (.inl (0, e)) A) else none
  | some (.inl (1, e)) => if k = 1 then sx_one (pc + n) (sx_p (.inl (1, e)) A) else none
  | some (.inr (1, a)) => if k = 2 then sx_one (pc + n) (sx_p (.inr (1, a)) A) else none
  | some (.inr (2, a)) => if k = 2 then sx_one (pc + n) (sx_p (.inr (2, a)) A) else none
  | _ => none
def sx_sto (nL k i n pc : Nat) (A : sx_S) : sx_R := match A.2.1 with
  | .inl (0, e) :: r => if k = 0 ∧ i < nL then sx_one (pc + n) (sx_s1 i (.inl (0, e)) A.1, r, A.2.2) else none
  | .inl (1, e) :: r => if k = 1 ∧ i + 1 < nL then sx_one (pc + n) (sx_s2 i (.inl (1, e)) A.1, r, A.2.2) else none
  | .inr (1, a) :: r => if k = 2 ∧ i < nL then sx_one (pc + n) (sx_s1 i (.inr (1, a)) A.1, r, A.2.2) else none
  | _ => none
def sx_inc (nL i : Nat) (n : Int) (pc : Nat) (A : sx_S) : sx_R := match sx_lk i A.1 with
  | some (.inl (0, e)) => if i < nL ∧ -2147483648 ≤ n ∧ n ≤ 2147483647 then
      (if sx_in A (-2147483648) 2147483647 (sx_ak e n) = true then sx_one (pc + 3) (sx_s1 i (.inl (0, sx_ak e n)) A.1, A.2) else (let B := sx_new (-2147483648) 2147483647 A
        sx_one (pc + 3) (sx_s1 i (.inl (0, sx_Y (sx_nx A))) B.1, B.2))) else none
  | _ => none
def sx_b2 (F : Nat → sx_E → sx_E → sx_S → sx_R) (pc : Nat) (A : sx_S) : sx_R := match A.2.1 with
  | .inl (0, y) :: .inl (0, x) :: r => F (pc + 1) x y (sx_k r A)
  | _ => none
def sx_b1 (F : Nat → sx_E → sx_S → sx_R) (pc : Nat) (A : sx_S) : sx_R := match A.2.1 with
  | .inl (0, x) :: r => F (pc + 1) x (sx_k r A)
  | _ => none
def sx_l2 (F : Nat → sx_E → sx_E → sx_S → sx_R) (pc : Nat) (A : sx_S) : sx_R := match A.2.1 with
  | .inl (1, y) :: .inl (1, x) :: r => F (pc + 1) x y (sx_k r A)
  | _ => none
def sx_oadd (kd : Nat) (p : Nat) (x y : sx_E) (A : sx_S) : sx_R := sx_li kd (sx_add x y) p A
def sx_osub (kd : Nat) (p : Nat) (x y : sx_E) (A : sx_S) : sx_R := sx_li kd (sx_sub x y) p A
def sx_omul (kd : Nat) (p : Nat) (x y : sx_E) (A : sx_S) : sx_R := match y.2, x.2 with
  | [], _ => sx_li kd (sx_mk y.1 x) p A
  | _, [] => sx_li kd (sx_mk x.1 y) p A
  | _, _ => sx_full kd p A
/-- two constants: what the machine itself would say -/
def sx_cc (f : Int32 → Int32 → Int32) (p : Nat) (x y : sx_E) (A : sx_S) (k : sx_R) : sx_R := match x.2, y.2 with
  | [], [] => sx_one p (sx_p (.inl (0, sx_K (f (Int32.ofInt x.1) (Int32.ofInt y.1)).toInt)) A)
  | _, _ => k
def sx_oand (kd : Nat) (p : Nat) (x y : sx_E) (A : sx_S) : sx_R := match sx_bd A x, sx_bd A y with
  | some a, some b => if 0 ≤ a.1 ∧ 0 ≤ b.1 then sx_fp kd 0 (if a.2 ≤ b.2 then a.2 else b.2) p A else (if 0 ≤ a.1 then sx_fp kd 0 a.2 p A else (if 0 ≤ b.1 then sx_fp kd 0 b.2 p A else sx_full kd p A))
  | _, _ => sx_full kd p A
/-- the least 2 ^ k - 1 that is no less -/
def sx_pw (n : Int) : Int := if n ≤ 0 then 0 else (2 ^ (Nat.log2 n.toNat + 1) : Nat) - 1
def sx_oor (p : Nat) (x y : sx_E) (A : sx_S) : sx_R := match sx_bd A x, sx_bd A y with
  | some a, some b => if 0 ≤ a.1 ∧ 0 ≤ b.1 then sx_fp 0 0 (sx_pw (if a.2 ≤ b.2 then b.2 else a.2)) p A else sx_full 0 p A
  | _, _ => sx_full 0 p A
def sx_oxor (p : Nat) (x y : sx_E) (A : sx_S) : sx_R := if y.2 = [] ∧ y.1 = -1 then sx_li 0 (sx_ak (sx_neg x) (-1)) p A else sx_oor p x y A
def sx_oshl (p : Nat) (x y : sx_E) (A : sx_S) : sx_R := match y.2 with
  | [] => if 0 ≤ y.1 ∧ y.1 ≤ 30 then sx_li 0 (sx_mk (2 ^ y.1.toNat) x) p A else sx_full 0 p A
  | _ => (match sx_bd A x, sx_bd A y with
    | some a, some b => if (0 ≤ a.1 ∧ 0 ≤ b.1) ∧ b.2 ≤ 30 ∧ a.2 * 2 ^ b.2.toNat ≤ 2147483647 then sx_fp 0 (a.1 * 2 ^ b.1.toNat) (a.2 * 2 ^ b.2.toNat) p A else sx_full 0 p A
    | _, _ => sx_full 0 p A)
def sx_oshr (p : Nat) (x y : sx_E) (A : sx_S) : sx_R := match sx_bd A x with
  | some a => if 0 ≤ a.1 then sx_fp 0 0 a.2 p A else sx_full 0 p A
  | _ => sx_full 0 p A
def sx_oushr (p : Nat) (x y : sx_E) (A : sx_S) : sx_R := match sx_bd A x with
  | some a => if 0 ≤ a.1 then sx_fp 0 0 a.2 p A else (match y.2 with
    | [] => if 1 ≤ y.1 ∧ y.1 ≤ 31 then sx_fp 0 0 (2 ^ (32 - y.1.toNat) - 1) p A else sx_full 0 p A
    | _ => sx_full 0 p A)
  | _ => sx_full 0 p A
def sx_odiv (p : Nat) (x y : sx_E) (A : sx_S) : sx_R := match sx_bd A x, sx_bd A y with
  | some a, some b => if 0 ≤ a.1 ∧ 0 < b.1 then
      (if y.2 = [] ∧ y.1 = 2 then sx_one p (sx_p (.inl (0, sx_Y (sx_nx A))) (sx_fa [sx_sub (sx_mk 2 (sx_Y (sx_nx A))) x, sx_ak (sx_sub x (sx_mk 2 (sx_Y (sx_nx A)))) (-1)] (sx_new (a.1 / 2) (a.2 / 2) A))) else sx_fp 0 0 (a.2 / b.1) p A)
    else (if 0 < b.1 ∨ b.2 < 0 then sx_full 0 p A else none)
  | _, _ => none
def sx_orem (p : Nat) (x y : sx_E) (A : sx_S) : sx_R := match sx_bd A x, sx_bd A y with
  | some a, some b => if 0 ≤ a.1 ∧ 0 < b.1 then sx_one p (sx_p (.inl (0, sx_Y (sx_nx A))) (sx_fa [sx_ak (sx_sub (sx_Y (sx_nx A)) y) 1] (sx_new 0 (if a.2 ≤ b.2 - 1 then a.2 else b.2 - 1) A)))
    else (if 0 < b.1 ∨ b.2 < 0 then sx_fp 0 (-((max b.1.natAbs b.2.natAbs : Nat) - 1)) ((max b.1.natAbs b.2.natAbs : Nat) - 1) p A else none)
  | _, _ => none
def sx_oneg (p : Nat) (x : sx_E) (A : sx_S) : sx_R := sx_li 0 (sx_neg x) p A
def sx_nar (l u : Int) (p : Nat) (x : sx_E) (A : sx_S) : sx_R := if sx_in A l u x = true then sx_one p (sx_p (.inl (0, x)) A) else sx_fp 0 l u p A
def sx_il (pc : Nat) (A : sx_S) : sx_R := match A.2.1 with
  | .inl (0, x) :: r => sx_one (pc + 1) (sx_p (.inl (1, x)) (sx_k r A))
  | _ => none
def sx_lin (pc : Nat) (A : sx_S) : sx_R := match A.2.1 with
  | .inl (1, x) :: r => sx_li 0 x (pc + 1) (sx_k r A)
  | _ => none
def sx_lsh (pc : Nat) (A : sx_S) : sx_R := match A.2.1 with
  | .inl (0, _) :: .inl (1, _) :: r => sx_full 1 (pc + 1) (sx_k r A)
  | _ => none
def sx_lc (pc : Nat) (A : sx_S) : sx_R := match A.2.1 with
  | .inl (1, y) :: .inl (1, x) :: r => sx_one (pc + 1) (sx_p (.inl (2, sx_sub x y)) (sx_k r A))
  | _ => none
def sx_to1 (pc : Nat) (off : Int) (l : List sx_S) : sx_R := if 0 ≤ (pc : Int) + off then some (l.map (fun A => (((pc : Int) + off).toNat, A))) else none
def sx_jn (a b : sx_R) : sx_R := match a, b with
  | some x, some y => some (x ++ y)
  | _, _ => none
def sx_ng (c : ClassFile.Cond) : ClassFile.Cond := match c with
  | .eq => .ne
  | .ne => .eq
  | .lt => .ge
  | .ge => .lt
  | .gt => .le
  | .le => .gt
def sx_br (c : ClassFile.Cond) (off : Int) (pc : Nat) (e : sx_E) (A : sx_S) : sx_R := sx_jn (sx_to1 pc off (sx_cd c e A)) (sx_to1 pc 3 (sx_cd (sx_ng c) e A))
def sx_if (c : ClassFile.Cond) (off : Int) (pc : Nat) (A : sx_S) : sx_R := match A.2.1 with
  | .inl (0, x) :: r => sx_br c off pc x (sx_k r A)
  | .inl (2, x) :: r => sx_br c off pc x (sx_k r A)
  | _ => none
def sx_ic (c : ClassFile.Cond) (off : Int) (pc : Nat) (A : sx_S) : sx_R := match A.2.1 with
  | .inl (0, y) :: .inl (0, x) :: r => sx_br c off pc (sx_sub x y) (sx_k r A)
  | _ => none
def sx_tsl (lo : Int) (pc : Nat) (x : sx_E) (A : sx_S) : List Int → Nat → sx_R
  | [], _ => some []
  | off :: r, j => sx_jn (sx_to1 pc off (sx_cd .eq (sx_ak x (-(lo + j))) A)) (sx_tsl lo pc x A r (j + 1))
def sx_tsw (d lo hi : Int) (offs : Array Int) (pc : Nat) (A : sx_S) : sx_R := match A.2.1 with
  | .inl (0, x) :: r => if (offs.size : Int) = hi - lo + 1 then sx_jn (sx_tsl lo pc x (sx_k r A) offs.toList 0) (sx_jn (sx_to1 pc d (sx_cd .lt (sx_ak x (-lo)) (sx_k r A))) (sx_to1 pc d (sx_cd .gt (sx_ak x (-hi)) (sx_k r A)))) else none
  | _ => none
def sx_lwl (pc : Nat) (x : sx_E) (A : sx_S) : List (Int × Int) → sx_R
  | [] => some []
  | q :: r => sx_jn (sx_to1 pc q.2 (sx_cd .eq (sx_ak x (-q.1)) A)) (sx_lwl pc x A r)
def sx_lsw (d : Int) (ps : Array (Int × Int)) (pc : Nat) (A : sx_S) : sx_R := match A.2.1 with
  | .inl (0, x) :: r => if (ps.toList.zip (ps.toList.drop 1)).all (fun (a, next) => a.1 < next.1) = true then sx_jn (sx_lwl pc x (sx_k r A) ps.toList) (sx_to1 pc d [sx_k r A]) else none
  | _ => none
def sx_dup (pc : Nat) (A : sx_S) : sx_R := match A.2.1 with
  | v :: r => if sx_two v = false then sx_one (pc + 1) (sx_k (v :: v :: r) A) else none
  | _ => none
def sx_pop (pc : Nat) (A : sx_S) : sx_R := match A.2.1 with
  | v :: r => if sx_two v = false then sx_one (pc + 1) (sx_k r A) else none
  | _ => none
def sx_dx1 (pc : Nat) (A : sx_S) : sx_R := match A.2.1 with
  | v :: w :: r => if sx_two v = false ∧ sx_two w = false then sx_one (pc + 1) (sx_k (v :: w :: v :: r) A) else none
  | _ => none
def sx_d2 (pc : Nat) (A : sx_S) : sx_R := match A.2.1 with
  | v :: w :: r => if sx_two v = false ∧ sx_two w = false then sx_one (pc + 1) (sx_k (v :: w :: v :: w :: r) A) else none
  | _ => none
def sx_gs (k pc : Nat) (A : sx_S) : sx_R := match k with
  | 0 => sx_one (pc + 3) (sx_p (.inr (2, 0)) A)
  | 1 => sx_one (pc + 3) (sx_p (.inl (0, sx_K 1)) A)
  | 2 => sx_one (pc + 3) (sx_p (.inr (2, 9)) A)
  | _ => none
def sx_gx (f pc : Nat) (A : sx_S) : sx_R := match A.2.1 with
  | .inr (2, k) :: r => if 1 ≤ k ∧ k ≤ 4 then (if f = 0 then sx_one (pc + 3) (sx_k (.inr (2, k + 10) :: r) A) else sx_one (pc + 3) (sx_k (.inl (0, sx_K 0) :: r) A)) else none
  | _ => none
/-! the heap -/
def sx_cel (SP : List sx_C) (a : Nat) : Option sx_C := match a with
  | 0 => none
  | k + 1 => SP[k]?
def sx_put1 (key : Nat) (v : sx_V) (fs : List (Nat × sx_V)) : List (Nat × sx_V) := (key, v) :: fs.filter (fun q => !(q.1 == key))
def sx_wf (A : sx_S) (fs : List (Nat × sx_V)) : sx_S := (A.1, A.2.1, fs, A.2.2.2)
def sx_wl (A : sx_S) (el : List (Nat × sx_E × sx_V)) : sx_S := (A.1, A.2.1, A.2.2.1, el, A.2.2.2.2)
def sx_get (SP : List sx_C) (ci k pc : Nat) (A : sx_S) : sx_R := match A.2.1 with
  | .inr (1, a) :: r => (match sx_cel SP a with
    | some (.inr (cj, fs)) => if cj = ci ∧ k < 125 then (match fs[k]? with
      | some f => (match sx_lk (a * 128 + k) A.2.2.1 with
        | some v => sx_one (pc + 3) (sx_p v (sx_k r A))
        | none => (match f.1 with
          | 0 => sx_one (pc + 3) (sx_p (.inl (0, sx_Y (sx_nx A))) (sx_wf (sx_new f.2.1 f.2.2.1 (sx_k r A)) ((a * 128 + k, .inl (0, sx_Y (sx_nx A))) :: A.2.2.1)))
          | 1 => sx_one (pc + 3) (sx_p (.inl (1, sx_Y (sx_nx A))) (sx_wf (sx_new (-9223372036854775808) 9223372036854775807 (sx_k r A)) ((a * 128 + k, .inl (1, sx_Y (sx_nx A))) :: A.2.2.1)))
          | 2 => (match f.2.2.2 with
            | [b] => sx_one (pc + 3) (sx_p (.inr (1, b)) (sx_k r A))
            | cs => some (cs.map (fun b => (pc + 3, sx_p (.inr (1, b)) (sx_wf (sx_k r A) ((a * 128 + k, .inr (1, b)) :: A.2.2.1))))))
          | _ => none))
      | none => none) else none
    | _ => none)
  | _ => none
def sx_fit (A : sx_S) (ty : FieldType) (e : sx_E) : Bool := match ty with
  | .int => true
  | .boolean => sx_in A 0 1 e
  | _ => false
def sx_put (SP : List sx_C) (Mo : List Nat) (ci k pc : Nat) (A : sx_S) : sx_R := match A.2.1 with
  | v :: .inr (1, a) :: r => (match sx_cel SP a with
    | some (.inr (cj, fs)) => if cj = ci ∧ k < 125 ∧ Mo.contains (a * 128 + k) = true then (match fs[k]? with
      | some f => (match f.1, v with
        | 0, .inl (0, e) => if sx_in A f.2.1 f.2.2.1 e = true ∧ sx_fit A (ab_ty ci k) e = true then sx_one (pc + 3) (sx_wf (sx_k r A) (sx_put1 (a * 128 + k) v A.2.2.1)) else none
        | 1, .inl (1, e) => if ab_ty ci k = .long then sx_one (pc + 3) (sx_wf (sx_k r A) (sx_put1 (a * 128 + k) v A.2.2.1)) else none
        | 2, .inr (1, b) => if f.2.2.2.contains b = true ∧ ab_fit (ab_ty ci k) (.ref b) = true then sx_one (pc + 3) (sx_wf (sx_k r A) (sx_put1 (a * 128 + k) v A.2.2.1)) else none
        | 3, .inr (1, b) => if ab_fit (ab_ty ci k) (.ref b) = true then sx_one (pc + 3) (sx_wf (sx_k r A) (sx_put1 (a * 128 + k) v A.2.2.1)) else none
        | _, _ => none)
      | none => none) else none
    | _ => none)
  | _ => none
def sx_ix (A : sx_S) (n : Nat) (i : sx_E) : Bool := sx_in A 0 ((n : Int) - 1) i
def sx_le2 (a : Nat) (i : sx_E) : List (Nat × sx_E × sx_V) → Option sx_V
  | [] => none
  | q :: r => if q.1 = a ∧ q.2.1 = i then some q.2.2 else sx_le2 a i r
/-- an element that isn't known yet -/
def sx_eln (kd a : Nat) (i : sx_E) (pc : Nat) (A : sx_S) (p : Int × Int) : Nat × sx_S := (pc, sx_p (.inl (kd, sx_Y (sx_nx A))) (sx_wl (sx_new p.1 p.2 A) (A.2.2.2.1 ++ [(a, i, .inl (kd, sx_Y (sx_nx A)))])))
def sx_aal (pc : Nat) (i : sx_E) (A : sx_S) : List Nat → Nat → List (Nat × sx_S)
  | [], _ => []
  | b :: r, j => (sx_cd .eq (sx_ak i (-(j : Int))) A).map (fun B => (pc, sx_p (.inr (1, b)) B)) ++ sx_aal pc i A r (j + 1)
def sx_ial (SP : List sx_C) (ts : List Nat) (pc : Nat) (A : sx_S) : sx_R := match A.2.1 with
  | .inl (0, i) :: .inr (1, a) :: r => (match a with
    | 0 => (match sx_lk 126 A.2.2.1 with
      | some (.inl (0, l)) => if ts = [0] ∧ sx_le A (sx_neg i) = true ∧ sx_le A (sx_ak (sx_sub i l) 1) = true then (match sx_le2 0 i A.2.2.2.1 with
        | some v => sx_one (pc + 1) (sx_p v (sx_k r A))
        | none => some [sx_eln 0 0 i (pc + 1) (sx_k r A) (-2147483648, 2147483647)]) else none
      | _ => none)
    | _ => (match sx_cel SP a with
      | some (.inl (t, n, ps, cs)) => if ts.contains t = true ∧ sx_ix A n i = true then (if t = 4 then some (sx_aal (pc + 1) i (sx_k r A) cs 0) else (match sx_le2 a i A.2.2.2.1 with
        | some v => sx_one (pc + 1) (sx_p v (sx_k r A))
        | none => if t = 2 then some [sx_eln 1 a i (pc + 1) (sx_k r A) (-9223372036854775808, 9223372036854775807)] else some (ps.map (sx_eln 0 a i (pc + 1) (sx_k r A))))) else none
      | _ => none))
  | .inl (0, i) :: .inr (2, k) :: r => if ts = [2] ∧ k = 0 ∧ sx_ix A 6 i = true then sx_full 1 (pc + 1) (sx_k r A) else (if ts = [1, 3] ∧ (11 ≤ k ∧ k ≤ 14) ∧ sx_ix A (ab_xt (k - 11)).length i = true then sx_fp 0 0 127 (pc + 1) (sx_k r A) else none)
  | _ => none
def sx_len (SP : List sx_C) (pc : Nat) (A : sx_S) : sx_R := match A.2.1 with
  | .inr (1, a) :: r => (match a with
    | 0 => (match sx_lk 126 A.2.2.1 with
      | some v => sx_one (pc + 1) (sx_p v (sx_k r A))
      | none => none)
    | _ => (match sx_cel SP a with
      | some (.inl (_, n, _)) => if n ≤ 100000 then sx_one (pc + 1) (sx_p (.inl (0, sx_K n)) (sx_k r A)) else none
      | _ => none))
  | .inr (2, k) :: r => if 11 ≤ k ∧ k ≤ 14 then sx_one (pc + 1) (sx_p (.inl (0, sx_K (ab_xt (k - 11)).length)) (sx_k r A)) else none
  | _ => none
def sx_dro (a : Nat) (el : List (Nat × sx_E × sx_V)) : List (Nat × sx_E × sx_V) := el.filter (fun q => !(q.1 == a))
/-- a store: the state where the elements of a are forgotten but this one -/
def sx_sta (a : Nat) (i : sx_E) (v : sx_V) (r : List sx_V) (A : sx_S) : sx_S := sx_wf (sx_wl (sx_k r A) (sx_dro a A.2.2.2.1 ++ [(a, i, v)])) (A.2.2.1.filter (fun q => !(q.1 == a * 128 + 125)))
def sx_ias (SP : List sx_C) (Mo : List Nat) (ts : List Nat) (pc : Nat) (A : sx_S) : sx_R := match A.2.1 with
  | .inl (0, e) :: .inl (0, i) :: .inr (1, a) :: r => (match sx_cel SP a with
    | some (.inl (t, n, ps, _)) => if ts.contains t = true ∧ (t = 0 ∨ (t = 1 ∧ sx_in A (-128) 127 e = true) ∨ (t = 3 ∧ sx_in A 0 1 e = true)) ∧ sx_ix A n i = true ∧ ps.any (fun p => sx_in A p.1 p.2 e) = true ∧ Mo.contains (a * 128 + 127) = true ∧ Mo.contains (a * 128 + 125) = true ∧ n ≤ 100000 then
        (match sx_lk (a * 128 + 125) A.2.2.1, sx_le2 a i A.2.2.2.1 with
          | some (.inl (0, zz)), some (.inl (0, o)) => if sx_in A 0 0 o = true ∧ sx_le A (sx_ak (sx_neg e) 1) = true then sx_one (pc + 1) (sx_wf (sx_fa [sx_ak (sx_sub (sx_Y (sx_nx A)) zz) 1, sx_ak (sx_sub zz (sx_Y (sx_nx A))) (-1)] (sx_new 0 n (sx_sta a i (.inl (0, e)) r A))) ((a * 128 + 125, .inl (0, sx_Y (sx_nx A))) :: (sx_sta a i (.inl (0, e)) r A).2.2.1)) else sx_one (pc + 1) (sx_sta a i (.inl (0, e)) r A)
          | _, _ => sx_one (pc + 1) (sx_sta a i (.inl (0, e)) r A)) else none
    | _ => none)
  | .inl (1, e) :: .inl (0, i) :: .inr (1, a) :: r => (match sx_cel SP a with
    | some (.inl (t, n, _, _)) => if ts.contains t = true ∧ t = 2 ∧ sx_ix A n i = true ∧ Mo.contains (a * 128 + 127) = true then sx_one (pc + 1) (sx_sta a i (.inl (1, e)) r A) else none
    | _ => none)
  | _ => none
def sx_wt (st : List sx_V) : Nat := (st.map (fun v => if sx_two v = true then 2 else 1)).sum
def sx_cpy (SP : List sx_C) (Mo : List Nat) (pc : Nat) (A : sx_S) : sx_R := match A.2.1 with
  | .inl (0, (n, [])) :: .inl (0, (dp, [])) :: .inr (1, a) :: .inl (0, (sp, [])) :: .inr (1, a0) :: r => (match sx_cel SP a0, sx_cel SP a with
    | some (.inl (0, n0, p0, _)), some (.inl (0, n1, p1, _)) => if (0 ≤ sp ∧ 0 ≤ dp ∧ 0 ≤ n) ∧ (sp + n ≤ n0 ∧ dp + n ≤ n1) ∧ p0 = p1 ∧ sx_wt r ≤ 8 ∧ Mo.contains (a * 128 + 127) = true ∧ Mo.contains (a * 128 + 125) = true then sx_one (pc + 3) (sx_wf (sx_wl (sx_k r A) (sx_dro a A.2.2.2.1)) (A.2.2.1.filter (fun q => !(q.1 == a * 128 + 125)))) else none
    | _, _ => none)
  | _ => none
def sx_sp (SP : List sx_C) (Mo : List Nat) (nL : Nat) (e : ab_I) (pc : Nat) (A : sx_S) : sx_R := match e.1 with
  | .iconst n => sx_one (pc + 1) (sx_p (.inl (0, sx_K (Int32.ofInt n).toInt)) A)
  | .bipush n => sx_one (pc + 2) (sx_p (.inl (0, sx_K (Int8.ofInt n).toInt32.toInt)) A)
  | .sipush n => sx_one (pc + 3) (sx_p (.inl (0, sx_K (Int16.ofInt n).toInt32.toInt)) A)
  | .lconst n => sx_one (pc + 1) (sx_p (.inl (1, sx_K (Int64.ofNat (n : Nat)).toInt)) A)
  | .ldc _ => if e.2.2.1 = 7 then (if e.2.2.2.1 < 4 then sx_one (pc + 2) (sx_p (.inr (2, e.2.2.2.1 + 1)) A) else none) else sx_one (pc + 2) (sx_p (.inl (0, sx_K (Int32.ofInt e.2.2.2.2.2.1).toInt)) A)
  | .ldc_w _ => sx_one (pc + 3) (sx_p (.inl (0, sx_K (Int32.ofInt e.2.2.2.2.2.1).toInt)) A)
  | .ldc2_w _ => sx_one (pc + 3) (sx_p (.inl (1, sx_K (Int64.ofInt e.2.2.2.2.2.1).toInt)) A)
  | .iload_n k => sx_ld 0 k.val 1 pc A
  | .iload i => sx_ld 0 i 2 pc A
  | .lload_n k => sx_ld 1 k.val 1 pc A
  | .lload i => sx_ld 1 i 2 pc A
  | .aload_n k => sx_ld 2 k.val 1 pc A
  | .aload i => sx_ld 2 i 2 pc A
  | .istore_n k => sx_sto nL 0 k.val 1 pc A
  | .istore i => sx_sto nL 0 i 2 pc A
  | .lstore_n k => sx_sto nL 1 k.val 1 pc A
  | .lstore i => sx_sto nL 1 i 2 pc A
  | .astore_n k => sx_sto nL 2 k.val 1 pc A
  | .astore i => sx_sto nL 2 i 2 pc A
  | .iinc i n => sx_inc nL i n pc A
  | .iadd => sx_b2 (sx_oadd 0) pc A
  | .isub => sx_b2 (sx_osub 0) pc A
  | .imul => sx_b2 (sx_omul 0) pc A
  | .iand => sx_b2 (fun p x y A => sx_cc (fun x y => x &&& y) p x y A (sx_oand 0 p x y A)) pc A
  | .ior => sx_b2 (fun p x y A => sx_cc (fun x y => x ||| y) p x y A (sx_oor p x y A)) pc A
  | .ixor => sx_b2 (fun p x y A => sx_cc (fun x y => x ^^^ y) p x y A (sx_oxor p x y A)) pc A
  | .ishl => sx_b2 (fun p x y A => sx_cc (fun x y => x <<< (y &&& 31)) p x y A (sx_oshl p x y A)) pc A
  | .ishr => sx_b2 (fun p x y A => sx_cc (fun x y => x >>> (y &&& 31)) p x y A (sx_oshr p x y A)) pc A
  | .iushr => sx_b2 sx_oushr pc A
  | .idiv => sx_b2 sx_odiv pc A
  | .irem => sx_b2 sx_orem pc A
  | .ineg => sx_b1 sx_oneg pc A
  | .i2b => sx_b1 (sx_nar (-128) 127) pc A
  | .i2s => sx_b1 (sx_nar (-32768) 32767) pc A
  | .i2c => sx_b1 (sx_nar 0 65535) pc A
  | .i2l => sx_il pc A
  | .l2i => sx_lin pc A
  | .ladd => sx_l2 (sx_oadd 1) pc A
  | .lsub => sx_l2 (sx_osub 1) pc A
  | .lmul => sx_l2 (fun p _ _ A => sx_full 1 p A) pc A
  | .land => sx_l2 (sx_oand 1) pc A
  | .lor => sx_l2 (fun p _ _ A => sx_full 1 p A) pc A
  | .lxor => sx_l2 (fun p _ _ A => sx_full 1 p A) pc A
  | .lcmp => sx_lc pc A
  | .lshl => sx_lsh pc A
  | .lshr => sx_lsh pc A
  | .lushr => sx_lsh pc A
  | .dup => sx_dup pc A
  | .pop => sx_pop pc A
  | .dup_x1 => sx_dx1 pc A
  | .dup2 => sx_d2 pc A
  | .ifCond c off => sx_if c off pc A
  | .if_icmp c off => sx_ic c off pc A
  | .goto off => sx_to1 pc off [A]
  | .tableswitch d lo hi offs => sx_tsw d lo hi offs pc A
  | .lookupswitch d ps => sx_lsw d ps pc A
  | .getfield _ => if e.2.2.1 = 20 then sx_gx e.2.2.2.1 pc A else sx_get SP e.2.2.1 e.2.2.2.1 pc A
  | .getstatic _ => sx_gs e.2.2.1 pc A
  | .putfield _ => sx_put SP Mo e.2.2.1 e.2.2.2.1 pc A
  | .invokestatic _ => if e.2.2.1 = 8 then sx_cpy SP Mo pc A else none
  | .iaload => sx_ial SP [0] pc A
  | .baload => sx_ial SP [1, 3] pc A
  | .laload => sx_ial SP [2] pc A
  | .aaload => sx_ial SP [4] pc A
  | .arraylength => sx_len SP pc A
  | .iastore => sx_ias SP Mo [0] pc A
  | .bastore => sx_ias SP Mo [1, 3] pc A
  | .lastore => sx_ias SP Mo [2] pc A
  | _ => none
