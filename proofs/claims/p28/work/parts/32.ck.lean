/-! ===== THE CHECKER: intervals with symbols. An int is (lo, hi, s, c): lo ≤ x ≤ hi, s < nx and x = β s + c (β 0 = 0, so s = 0 is a constant); anything else is (0, _) a long, (1, a) the cell a, (2, k) the outside constant k ===== -/
abbrev ck_I : Type := Int × Int × Nat × Int
abbrev ck_V : Type := ck_I ⊕ (Nat × Nat)
/-- locals; stack; known fields, by cell * 64 + field; the next symbol -/
abbrev ck_S : Type := List (Nat × ck_V) × List ck_V × List (Nat × ck_I) × Nat
/-- a field's words: 0 an int in lo .. hi, 1 a long, 2 one of the cells -/
abbrev ck_F : Type := Nat × Int × Int × List Nat
/-- a cell's words: an array (type, length, lo, hi, cells) or an object (class, fields) -/
abbrev ck_C : Type := (Nat × Nat × Int × Int × List Nat) ⊕ (Nat × List ck_F)
def ck_i (β : Nat → Int) (nx : Nat) (v : ck_I) (x : Int32) : Prop := v.2.2.1 < nx ∧ v.1 ≤ x.toInt ∧ x.toInt ≤ v.2.1 ∧ x.toInt = β v.2.2.1 + v.2.2.2
def ck_v (β : Nat → Int) (nx : Nat) (v : ck_V) (w : Value) : Prop := match v, w with
  | .inl i, .int x => ck_i β nx i x
  | .inr q, .long _ => q.1 = 0
  | .inr q, .ref a => q.1 = 1 ∧ q.2 = a
  | .inr q, .retAddr k => q.1 = 2 ∧ q.2 = k
  | _, _ => False
def ck_st (β : Nat → Int) (nx : Nat) : List ck_V → List Value → Prop
  | [], [] => True
  | v :: r, w :: q => ck_v β nx v w ∧ ck_st β nx r q
  | _, _ => False
/-- what a heap must be: as many cells and slots, each cell by its words -/
def ck_fv (f : ck_F) (w : Value) : Prop := match w with
  | .int x => f.1 = 0 ∧ f.2.1 ≤ x.toInt ∧ x.toInt ≤ f.2.2.1
  | .long _ => f.1 = 1
  | .ref a => f.1 = 2 ∧ a ∈ f.2.2.2
  | _ => False
def ck_c (c : ck_C) (e : ab_E) : Prop := match c, e with
  | .inl (t, n, lo, hi, _), .inl (t', n', .inl f) => t = t' ∧ n = n' ∧ (t = 0 ∨ t = 1 ∨ t = 3) ∧ ∀ j, j < n → lo ≤ (f j).toInt ∧ (f j).toInt ≤ hi
  | .inl (t, n, _, _, _), .inl (t', n', .inr (.inl _)) => t = t' ∧ n = n' ∧ t = 2
  | .inl (t, n, _, _, cs), .inl (t', n', .inr (.inr f)) => t = t' ∧ n = n' ∧ t = 4 ∧ ∀ j, j < n → ∃ a, f j = some a ∧ a ∈ cs
  | .inr (ci, fs), .inr (cj, ws) => ci = cj ∧ fs.length = ws.length ∧ ∀ (k : Nat) (f : ck_F) (w : Value), fs[k]? = some f → ws[k]? = some w → ck_fv f w
  | _, _ => False
def ck_h (SP : List ck_C) (h : ab_H) : Prop := h.1 = SP.length + 1 ∧ ∀ (k : Nat) (c : ck_C), SP[k]? = some c → ck_c c (h.2.2 (k + 1))
def ck_fd (h : ab_H) (key : Nat) : Option Value := match ab_rd h (key / 64) with
  | some (.inr (_, ws)) => ws[key % 64]?
  | _ => none
/-- a state of the run and a state of the checker -/
def ck_g (SP : List ck_C) (β : Nat → Int) (A : ck_S) (lv : ab_L) (st : List Value) (h : ab_H) : Prop :=
  β 0 = 0 ∧ 0 < A.2.2.2 ∧ (∀ i v, (i, v) ∈ A.1 → ∃ w, ab_lk lv i = some w ∧ ck_v β A.2.2.2 v w) ∧ ck_st β A.2.2.2 A.2.1 st ∧ (∀ k v, (k, v) ∈ A.2.2.1 → ∃ x, ck_fd h k = some (.int x) ∧ ck_i β A.2.2.2 v x) ∧ ck_h SP h
/-- narrower: the symbol s is within lo .. hi -/
def ck_ri (s : Nat) (lo hi : Int) (v : ck_I) : ck_I := if v.2.2.1 = s then (max v.1 (lo + v.2.2.2), min v.2.1 (hi + v.2.2.2), v.2.2) else v
def ck_rv (s : Nat) (lo hi : Int) (v : ck_V) : ck_V := match v with
  | .inl i => .inl (ck_ri s lo hi i)
  | .inr q => .inr q
def ck_rf (v : ck_I) (lo hi : Int) (A : ck_S) : ck_S :=
  (A.1.map (fun q => (q.1, ck_rv v.2.2.1 (lo - v.2.2.2) (hi - v.2.2.2) q.2)), A.2.1.map (ck_rv v.2.2.1 (lo - v.2.2.2) (hi - v.2.2.2)), A.2.2.1.map (fun q => (q.1, ck_ri v.2.2.1 (lo - v.2.2.2) (hi - v.2.2.2) q.2)), A.2.2.2)
/-- what x may be, where 'x c y' holds, y within lo .. hi -/
def ck_nl (c : ClassFile.Cond) (x y : ck_I) : Int × Int := match c with
  | .eq => (max x.1 y.1, min x.2.1 y.2.1)
  | .ne => (if x.1 = y.1 ∧ y.1 = y.2.1 then x.1 + 1 else x.1, if x.2.1 = y.1 ∧ y.1 = y.2.1 then x.2.1 - 1 else x.2.1)
  | .lt => (x.1, min x.2.1 (y.2.1 - 1))
  | .le => (x.1, min x.2.1 y.2.1)
  | .gt => (max x.1 (y.1 + 1), x.2.1)
  | .ge => (max x.1 y.1, x.2.1)
def ck_sw (c : ClassFile.Cond) : ClassFile.Cond := match c with
  | .lt => .gt
  | .gt => .lt
  | .le => .ge
  | .ge => .le
  | c => c
def ck_ng (c : ClassFile.Cond) : ClassFile.Cond := match c with
  | .eq => .ne
  | .ne => .eq
  | .lt => .ge
  | .ge => .lt
  | .gt => .le
  | .le => .gt
def ck_br (c : ClassFile.Cond) (x y : ck_I) (A : ck_S) : Option ck_S :=
  let p := ck_nl c x y
  let q := ck_nl (ck_sw c) y x
  if p.1 ≤ p.2 ∧ q.1 ≤ q.2 then some (ck_rf y q.1 q.2 (ck_rf x p.1 p.2 A)) else none
/-! ===== one step of the checker: the states that may follow (none: it cannot tell) ===== -/
abbrev ck_R : Type := Option (List (Nat × ck_S))
def ck_in (lo hi : Int) : Bool := decide (-2147483648 ≤ lo) && decide (hi ≤ 2147483647)
def ck_kc (n : Int) : ck_V := .inl (n, n, 0, n)
def ck_pu (v : ck_V) (A : ck_S) : ck_S := (A.1, v :: A.2.1, A.2.2)
def ck_sk (st : List ck_V) (A : ck_S) : ck_S := (A.1, st, A.2.2)
/-- a new symbol on the stack -/
def ck_fr (lo hi : Int) (A : ck_S) : ck_S := (A.1, .inl (lo, hi, A.2.2.2, 0) :: A.2.1, A.2.2.1, A.2.2.2 + 1)
def ck_one (pc : Nat) (A : ck_S) : ck_R := some [(pc, A)]
def ck_nf (pc : Nat) (lo hi : Int) (A : ck_S) : ck_R := if ck_in lo hi = true then ck_one pc (ck_fr lo hi A) else none
def ck_lk (i : Nat) : List (Nat × ck_V) → Option ck_V
  | [] => none
  | q :: r => if q.1 = i then some q.2 else ck_lk i r
def ck_lf (k : Nat) : List (Nat × ck_I) → Option ck_I
  | [] => none
  | q :: r => if q.1 = k then some q.2 else ck_lf k r
def ck_two (v : ck_V) : Bool := match v with
  | .inr q => q.1 == 0
  | .inl _ => false
def ck_s1 (i : Nat) (v : ck_V) (lv : List (Nat × ck_V)) : List (Nat × ck_V) := (i, v) :: lv.filter (fun q => !(q.1 == i) && !(q.1 + 1 == i && ck_two q.2))
def ck_s2 (i : Nat) (v : ck_V) (lv : List (Nat × ck_V)) : List (Nat × ck_V) := (i, v) :: lv.filter (fun q => !(q.1 == i) && (!(q.1 == i + 1) && !(q.1 + 1 == i && ck_two q.2)))
def ck_ld (k i n pc : Nat) (A : ck_S) : ck_R := match ck_lk i A.1 with
  | some (.inl v) => if k = 0 then ck_one (pc + n) (ck_pu (.inl v) A) else none
  | some (.inr q) => if (k = 1 ∧ q.1 = 0) ∨ (k = 2 ∧ (q.1 = 1 ∨ q.1 = 2)) then ck_one (pc + n) (ck_pu (.inr q) A) else none
  | none => none
def ck_sto (nL k i n pc : Nat) (A : ck_S) : ck_R := match A.2.1 with
  | .inl v :: r => if k = 0 ∧ i < nL then ck_one (pc + n) (ck_s1 i (.inl v) A.1, r, A.2.2) else none
  | .inr q :: r => if k = 1 ∧ q.1 = 0 ∧ i + 1 < nL then ck_one (pc + n) (ck_s2 i (.inr q) A.1, r, A.2.2) else (if k = 2 ∧ q.1 = 1 ∧ i < nL then ck_one (pc + n) (ck_s1 i (.inr q) A.1, r, A.2.2) else none)
  | [] => none
def ck_inc (nL i : Nat) (n : Int) (pc : Nat) (A : ck_S) : ck_R := match ck_lk i A.1 with
  | some (.inl v) => if i < nL ∧ ck_in (v.1 + n) (v.2.1 + n) = true ∧ ck_in n n = true then ck_one (pc + 3) (ck_s1 i (.inl (v.1 + n, v.2.1 + n, v.2.2.1, v.2.2.2 + n)) A.1, A.2) else none
  | _ => none
/-- two ints into one: the bounds of the answer, and its symbol where it keeps one -/
def ck_add (pc : Nat) (x y : ck_I) (A : ck_S) : ck_R := if ck_in (x.1 + y.1) (x.2.1 + y.2.1) = true then
    (if y.2.2.1 = 0 then ck_one pc (ck_pu (.inl (x.1 + y.1, x.2.1 + y.2.1, x.2.2.1, x.2.2.2 + y.2.2.2)) A) else if x.2.2.1 = 0 then ck_one pc (ck_pu (.inl (x.1 + y.1, x.2.1 + y.2.1, y.2.2.1, x.2.2.2 + y.2.2.2)) A) else ck_one pc (ck_fr (x.1 + y.1) (x.2.1 + y.2.1) A)) else none
def ck_sub (pc : Nat) (x y : ck_I) (A : ck_S) : ck_R := if ck_in (x.1 - y.2.1) (x.2.1 - y.1) = true then
    (if y.2.2.1 = 0 then ck_one pc (ck_pu (.inl (x.1 - y.2.1, x.2.1 - y.1, x.2.2.1, x.2.2.2 - y.2.2.2)) A) else ck_one pc (ck_fr (x.1 - y.2.1) (x.2.1 - y.1) A)) else none
def ck_mul (pc : Nat) (x y : ck_I) (A : ck_S) : ck_R := ck_nf pc (min (min (x.1 * y.1) (x.1 * y.2.1)) (min (x.2.1 * y.1) (x.2.1 * y.2.1))) (max (max (x.1 * y.1) (x.1 * y.2.1)) (max (x.2.1 * y.1) (x.2.1 * y.2.1))) A
def ck_all (pc : Nat) (A : ck_S) : ck_R := ck_one pc (ck_fr (-2147483648) 2147483647 A)
def ck_and (pc : Nat) (x y : ck_I) (A : ck_S) : ck_R := if 0 ≤ y.1 then (if 0 ≤ x.1 then ck_nf pc 0 (min x.2.1 y.2.1) A else ck_nf pc 0 y.2.1 A) else (if 0 ≤ x.1 then ck_nf pc 0 x.2.1 A else ck_all pc A)
/-- the least 2 ^ k - 1 that is no less -/
def ck_up (n : Int) : Int := (2 ^ (Nat.log2 n.toNat + 1) : Nat) - 1
def ck_or (pc : Nat) (x y : ck_I) (A : ck_S) : ck_R := if 0 ≤ x.1 ∧ 0 ≤ y.1 then ck_nf pc 0 (ck_up (max x.2.1 y.2.1)) A else ck_all pc A
/-- two constants: what the machine itself would say -/
def ck_cc (f : Int32 → Int32 → Int32) (pc : Nat) (x y : ck_I) (A : ck_S) (k : ck_R) : ck_R := if x.2.2.1 = 0 ∧ y.2.2.1 = 0 then ck_one pc (ck_pu (ck_kc (f (Int32.ofInt x.2.2.2) (Int32.ofInt y.2.2.2)).toInt) A) else k
def ck_shl (pc : Nat) (x y : ck_I) (A : ck_S) : ck_R := if 0 ≤ x.1 ∧ 0 ≤ y.1 ∧ y.2.1 ≤ 30 ∧ ck_in 0 (x.2.1 * 2 ^ y.2.1.toNat) = true then ck_nf pc (x.1 * 2 ^ y.1.toNat) (x.2.1 * 2 ^ y.2.1.toNat) A else ck_all pc A
def ck_shr (pc : Nat) (x y : ck_I) (A : ck_S) : ck_R := if 0 ≤ x.1 then (if 0 ≤ y.1 ∧ y.2.1 ≤ 31 then ck_nf pc (x.1 / 2 ^ y.2.1.toNat) (x.2.1 / 2 ^ y.1.toNat) A else ck_nf pc 0 x.2.1 A) else ck_all pc A
def ck_div (pc : Nat) (x y : ck_I) (A : ck_S) : ck_R := if 0 ≤ x.1 ∧ 0 < y.1 then ck_nf pc (x.1 / y.2.1) (x.2.1 / y.1) A else (if 0 < y.1 then ck_nf pc (-(max x.1.natAbs x.2.1.natAbs : Nat)) (max x.1.natAbs x.2.1.natAbs : Nat) A else none)
def ck_rem (pc : Nat) (x y : ck_I) (A : ck_S) : ck_R := if 0 < y.1 then (if 0 ≤ x.1 then ck_nf pc 0 (min x.2.1 (y.2.1 - 1)) A else ck_nf pc (1 - y.2.1) (y.2.1 - 1) A) else none
def ck_b2 (f : Nat → ck_I → ck_I → ck_S → ck_R) (pc : Nat) (A : ck_S) : ck_R := match A.2.1 with
  | .inl y :: .inl x :: r => f (pc + 1) x y (ck_sk r A)
  | _ => none
def ck_nar (lo hi : Int) (pc : Nat) (A : ck_S) : ck_R := match A.2.1 with
  | .inl x :: r => if lo ≤ x.1 ∧ x.2.1 ≤ hi then ck_one (pc + 1) A else ck_one (pc + 1) (ck_fr lo hi (ck_sk r A))
  | _ => none
def ck_neg (pc : Nat) (A : ck_S) : ck_R := match A.2.1 with
  | .inl x :: r => ck_nf (pc + 1) (-x.2.1) (-x.1) (ck_sk r A)
  | _ => none
/-- longs: how many are taken (2: ints too), a long is given -/
def ck_l2 (pc : Nat) (A : ck_S) : ck_R := match A.2.1 with
  | .inr p :: .inr q :: r => if p.1 = 0 ∧ q.1 = 0 then ck_one (pc + 1) (ck_sk (.inr (0, 0) :: r) A) else none
  | _ => none
def ck_ls (pc : Nat) (A : ck_S) : ck_R := match A.2.1 with
  | .inl _ :: .inr q :: r => if q.1 = 0 then ck_one (pc + 1) (ck_sk (.inr (0, 0) :: r) A) else none
  | _ => none
def ck_lc (pc : Nat) (A : ck_S) : ck_R := match A.2.1 with
  | .inr p :: .inr q :: r => if p.1 = 0 ∧ q.1 = 0 then ck_one (pc + 1) (ck_fr (-1) 1 (ck_sk r A)) else none
  | _ => none
def ck_il (pc : Nat) (A : ck_S) : ck_R := match A.2.1 with
  | .inl _ :: r => ck_one (pc + 1) (ck_sk (.inr (0, 0) :: r) A)
  | _ => none
def ck_li (pc : Nat) (A : ck_S) : ck_R := match A.2.1 with
  | .inr q :: r => if q.1 = 0 then ck_all (pc + 1) (ck_sk r A) else none
  | _ => none
def ck_to (pc : Nat) (off : Int) (A : Option ck_S) : ck_R := match A with
  | none => some []
  | some A => if 0 ≤ (pc : Int) + off then ck_one ((pc : Int) + off).toNat A else none
def ck_jn (a b : ck_R) : ck_R := match a, b with
  | some x, some y => some (x ++ y)
  | _, _ => none
def ck_ic (c : ClassFile.Cond) (off : Int) (pc : Nat) (x y : ck_I) (A : ck_S) : ck_R := ck_jn (ck_to pc off (ck_br c x y A)) (ck_to pc 3 (ck_br (ck_ng c) x y A))
def ck_zero : ck_I := (0, 0, 0, 0)
def ck_kI (n : Int) : ck_I := (n, n, 0, n)
def ck_if (c : ClassFile.Cond) (off : Int) (pc : Nat) (A : ck_S) : ck_R := match A.2.1 with
  | .inl x :: r => ck_ic c off pc x ck_zero (ck_sk r A)
  | _ => none
def ck_ic2 (c : ClassFile.Cond) (off : Int) (pc : Nat) (A : ck_S) : ck_R := match A.2.1 with
  | .inl y :: .inl x :: r => ck_ic c off pc x y (ck_sk r A)
  | _ => none
/-- tableswitch: a state for each number that x may be -/
def ck_ts (lo : Int) (pc : Nat) (x : ck_I) (A : ck_S) : List Int → Nat → ck_R
  | [], _ => some []
  | off :: r, j => ck_jn (ck_to pc off (ck_br .eq x (ck_kI (lo + j)) A)) (ck_ts lo pc x A r (j + 1))
def ck_tsw (d lo hi : Int) (offs : Array Int) (pc : Nat) (A : ck_S) : ck_R := match A.2.1 with
  | .inl x :: r => if (offs.size : Int) = hi - lo + 1 ∧ ck_in lo hi = true then ck_jn (ck_ts lo pc x (ck_sk r A) offs.toList 0) (ck_jn (ck_to pc d (ck_br .lt x (ck_kI lo) (ck_sk r A))) (ck_to pc d (ck_br .gt x (ck_kI hi) (ck_sk r A)))) else none
  | _ => none
def ck_lw (pc : Nat) (x : ck_I) (A : ck_S) : List (Int × Int) → ck_R
  | [] => some []
  | q :: r => ck_jn (ck_to pc q.2 (ck_br .eq x (ck_kI q.1) A)) (ck_lw pc x A r)
def ck_lsw (d : Int) (ps : Array (Int × Int)) (pc : Nat) (A : ck_S) : ck_R := match A.2.1 with
  | .inl x :: r => if (ps.toList.zip (ps.toList.drop 1)).all (fun (a, next) => a.1 < next.1) = true ∧ ps.toList.all (fun q => ck_in q.1 q.1) = true then ck_jn (ck_lw pc x (ck_sk r A) ps.toList) (ck_to pc d (some (ck_sk r A))) else none
  | _ => none
/-! the heap -/
def ck_at (SP : List ck_C) (a : Nat) : Option ck_C := match a with
  | 0 => none
  | k + 1 => SP[k]?
def ck_key (a k : Nat) : Nat := a * 64 + k
def ck_set (k : Nat) (v : ck_I) (fs : List (Nat × ck_I)) : List (Nat × ck_I) := (k, v) :: fs.filter (fun q => !(q.1 == k))
def ck_get (SP : List ck_C) (ci k pc : Nat) (A : ck_S) : ck_R := match A.2.1 with
  | .inr (1, a) :: r => (match ck_at SP a with
    | some (.inr (cj, fs)) => if cj = ci ∧ k < 64 then (match fs[k]? with
      | some (0, lo, hi, _) => (match ck_lf (ck_key a k) A.2.2.1 with
        | some v => ck_one (pc + 3) (ck_sk (.inl v :: r) A)
        | none => ck_one (pc + 3) (A.1, .inl (lo, hi, A.2.2.2, 0) :: r, ck_set (ck_key a k) (lo, hi, A.2.2.2, 0) A.2.2.1, A.2.2.2 + 1))
      | some (1, _, _, _) => ck_one (pc + 3) (ck_sk (.inr (0, 0) :: r) A)
      | some (2, _, _, cs) => some (cs.map (fun b => (pc + 3, ck_sk (.inr (1, b) :: r) A)))
      | _ => none) else none
    | _ => none)
  | _ => none
/-- an int of a field's or an array's type -/
def ck_fit (ty : FieldType) (lo hi : Int) : Bool := match ty with
  | .int => true
  | .boolean => decide (0 ≤ lo) && decide (hi ≤ 1)
  | .byte => decide (-128 ≤ lo) && decide (hi ≤ 127)
  | .short => decide (-32768 ≤ lo) && decide (hi ≤ 32767)
  | .char => decide (0 ≤ lo) && decide (hi ≤ 65535)
  | _ => false
def ck_put (SP : List ck_C) (Mo : List Nat) (ci k pc : Nat) (A : ck_S) : ck_R := match A.2.1 with
  | .inl v :: .inr (1, a) :: r => (match ck_at SP a with
    | some (.inr (cj, fs)) => if cj = ci ∧ k < 64 ∧ Mo.contains (ck_key a k) = true then (match fs[k]? with
      | some (0, lo, hi, _) => if lo ≤ v.1 ∧ v.2.1 ≤ hi ∧ ck_fit (ab_ty ci k) v.1 v.2.1 = true then ck_one (pc + 3) (A.1, r, ck_set (ck_key a k) v A.2.2.1, A.2.2.2) else none
      | _ => none) else none
    | _ => none)
  | .inr w :: .inr (1, a) :: r => (match ck_at SP a with
    | some (.inr (cj, fs)) => if cj = ci ∧ k < 64 ∧ Mo.contains (ck_key a k) = true then (match fs[k]? with
      | some (1, _, _, _) => if w.1 = 0 ∧ ab_ty ci k = .long then ck_one (pc + 3) (ck_sk r A) else none
      | some (2, _, _, cs) => if w.1 = 1 ∧ cs.contains w.2 = true ∧ ab_fit (ab_ty ci k) (.ref w.2) = true then ck_one (pc + 3) (ck_sk r A) else none
      | _ => none) else none
    | _ => none)
  | _ => none
def ck_idx (i : ck_I) (n : Nat) : Bool := decide (0 ≤ i.1) && decide (i.2.1 < n)
def ck_ial (SP : List ck_C) (ts : List Nat) (pc : Nat) (A : ck_S) : ck_R := match A.2.1 with
  | .inl i :: .inr (1, a) :: r => (match ck_at SP a with
    | some (.inl (t, n, lo, hi, cs)) => if ts.contains t = true ∧ ck_idx i n = true then (if t = 2 then ck_one (pc + 1) (ck_sk (.inr (0, 0) :: r) A) else if t = 4 then some (cs.map (fun b => (pc + 1, ck_sk (.inr (1, b) :: r) A))) else ck_nf (pc + 1) lo hi (ck_sk r A)) else none
    | _ => none)
  | .inl i :: .inr (2, k) :: r => if ts = [2] ∧ k = 0 ∧ ck_idx i 6 = true then ck_one (pc + 1) (ck_sk (.inr (0, 0) :: r) A) else (if ts = [1, 3] ∧ 11 ≤ k ∧ k ≤ 14 ∧ ck_idx i (ab_xt (k - 11)).length = true then ck_nf (pc + 1) 0 127 (ck_sk r A) else none)
  | _ => none
def ck_len (SP : List ck_C) (pc : Nat) (A : ck_S) : ck_R := match A.2.1 with
  | .inr (1, a) :: r => (match ck_at SP a with
    | some (.inl (_, n, _)) => if n ≤ 100000 then ck_one (pc + 1) (ck_sk (ck_kc n :: r) A) else none
    | _ => none)
  | .inr (2, k) :: r => if 11 ≤ k ∧ k ≤ 14 then ck_one (pc + 1) (ck_sk (ck_kc (ab_xt (k - 11)).length :: r) A) else none
  | _ => none
def ck_ias (SP : List ck_C) (Mo : List Nat) (ts : List Nat) (pc : Nat) (A : ck_S) : ck_R := match A.2.1 with
  | .inl v :: .inl i :: .inr (1, a) :: r => (match ck_at SP a with
    | some (.inl (t, n, lo, hi, _)) => if ts.contains t = true ∧ t ≠ 2 ∧ t ≠ 4 ∧ ck_idx i n = true ∧ lo ≤ v.1 ∧ v.2.1 ≤ hi ∧ (t = 1 → ck_fit .byte v.1 v.2.1 = true) ∧ (t = 3 → ck_fit .boolean v.1 v.2.1 = true) ∧ Mo.contains (ck_key a 63) = true then ck_one (pc + 1) (ck_sk r A) else none
    | _ => none)
  | .inr w :: .inl i :: .inr (1, a) :: r => (match ck_at SP a with
    | some (.inl (t, n, _, _, _)) => if ts.contains t = true ∧ t = 2 ∧ w.1 = 0 ∧ ck_idx i n = true ∧ Mo.contains (ck_key a 63) = true then ck_one (pc + 1) (ck_sk r A) else none
    | _ => none)
  | _ => none
/-! ===== contracts, annotated places, the run ===== -/
/-- method; arguments; what fields must be; answer; fields and arrays that it may write; what fields are then; frames that it needs -/
abbrev ck_K : Type := Nat × List ck_V × List (Nat × Int × Int) × Option ck_V × List Nat × List (Nat × Int × Int) × Nat
/-- place; state (its symbols don't count); measure -/
abbrev ck_A : Type := Nat × ck_S × List (Nat × Int) × Int
def ck_le (v w : ck_V) : Bool := match v, w with
  | .inl x, .inl y => decide (y.1 ≤ x.1) && decide (x.2.1 ≤ y.2.1)
  | .inr p, .inr q => decide (p.1 = q.1) && (decide (p.1 = 0) || decide (p.2 = q.2))
  | _, _ => false
def ck_les : List ck_V → List ck_V → Bool
  | [], [] => true
  | v :: r, w :: q => ck_le v w && ck_les r q
  | _, _ => false
/-- the bounds of a field: as known, else its words' -/
def ck_fb (SP : List ck_C) (k : Nat) (A : ck_S) : Option (Int × Int) := match ck_lf k A.2.2.1 with
  | some v => some (v.1, v.2.1)
  | none => (match ck_at SP (k / 64) with
    | some (.inr (_, fs)) => (match fs[k % 64]? with
      | some (0, lo, hi, _) => some (lo, hi)
      | _ => none)
    | _ => none)
def ck_fo (SP : List ck_C) (A : ck_S) (fs : List (Nat × Int × Int)) : Bool := fs.all (fun q => match ck_fb SP q.1 A with
  | some b => decide (q.2.1 ≤ b.1) && decide (b.2 ≤ q.2.2)
  | none => false)
/-- a state at an annotated place, with its symbols: local i is i + 1, stack j is 100 + j, field k is 1000 + k -/
def ck_sy (s : Nat) (v : ck_V) : ck_V := match v with
  | .inl x => .inl (x.1, x.2.1, s, 0)
  | .inr q => .inr q
def ck_sys : List ck_V → Nat → List ck_V
  | [], _ => []
  | v :: r, j => ck_sy (100 + j) v :: ck_sys r (j + 1)
def ck_base (B : ck_S) : ck_S := (B.1.map (fun q => (q.1, ck_sy (q.1 + 1) q.2)), ck_sys B.2.1 0, B.2.2.1.map (fun q => (q.1, (q.2.1, q.2.2.1, 1000 + q.1, 0))), 20000)
def ck_sub2 (SP : List ck_C) (A B : ck_S) : Bool := B.1.all (fun q => match ck_lk q.1 A.1 with
    | some v => ck_le v q.2
    | none => false) && (ck_les A.2.1 B.2.1 && ck_fo SP A (B.2.2.1.map (fun q => (q.1, q.2.1, q.2.2.1))))
/-- a measure's term by its name (local i: i, field k: 1000 + k), in a state -/
def ck_tm (A : ck_S) (n : Nat) : Option ck_I := if n < 64 then (match ck_lk n A.1 with
    | some (.inl v) => some v
    | _ => none) else ck_lf (n - 1000) A.2.2.1
def ck_sym (n : Nat) : Nat := if n < 64 then n + 1 else n
def ck_ub (a : Int) (v : ck_I) : Int := if 0 ≤ a then a * v.2.1 else a * v.1
def ck_co (m : List (Nat × Int)) (n : Nat) : Int := match m with
  | [] => 0
  | q :: r => if q.1 = n then q.2 else ck_co r n
/-- at most how much the measure m' in A is above the measure m at the start B -/
def ck_df (B A : ck_S) (m m' : List (Nat × Int)) : Option Int :=
  let f1 := m'.foldr (fun q (acc : Option Int) => match acc, ck_tm A q.1 with
    | some s, some v => some (s + (if v.2.2.1 = ck_sym q.1 ∧ ck_co m q.1 = q.2 then q.2 * v.2.2.2 else ck_ub q.2 v))
    | _, _ => none) (some 0)
  m.foldr (fun q (acc : Option Int) => match acc, ck_tm B q.1 with
    | some s, some v => (match ck_tm A q.1 with
      | some w => some (s + (if w.2.2.1 = ck_sym q.1 ∧ ck_co m' q.1 = q.2 then 0 else ck_ub (-q.2) v))
      | none => some (s + ck_ub (-q.2) v))
    | _, _ => none) f1
def ck_lt (SP : List ck_C) (a b : ck_A) (A : ck_S) : Bool := ck_sub2 SP A b.2.1 && (match ck_df (ck_base a.2.1) A a.2.2.1 b.2.2.1 with
  | some s => decide (s + b.2.2.2 - a.2.2.2 < 0) || (decide (s + b.2.2.2 - a.2.2.2 ≤ 0) && decide (a.1 < b.1))
  | none => false)
def ck_dup (pc : Nat) (A : ck_S) : ck_R := match A.2.1 with
  | v :: r => if ck_two v = false then ck_one (pc + 1) (ck_sk (v :: v :: r) A) else none
  | _ => none
def ck_pop (pc : Nat) (A : ck_S) : ck_R := match A.2.1 with
  | v :: r => if ck_two v = false then ck_one (pc + 1) (ck_sk r A) else none
  | _ => none
def ck_dx1 (pc : Nat) (A : ck_S) : ck_R := match A.2.1 with
  | v :: w :: r => if ck_two v = false ∧ ck_two w = false then ck_one (pc + 1) (ck_sk (v :: w :: v :: r) A) else none
  | _ => none
def ck_d2 (pc : Nat) (A : ck_S) : ck_R := match A.2.1 with
  | v :: w :: r => if ck_two v = false ∧ ck_two w = false then ck_one (pc + 1) (ck_sk (v :: w :: v :: w :: r) A) else none
  | _ => none
def ck_gs (k pc : Nat) (A : ck_S) : ck_R := match k with
  | 0 => ck_one (pc + 3) (ck_pu (.inr (2, 0)) A)
  | 1 => ck_one (pc + 3) (ck_pu (ck_kc 1) A)
  | 2 => ck_one (pc + 3) (ck_pu (.inr (2, 9)) A)
  | _ => none
def ck_gx (f pc : Nat) (A : ck_S) : ck_R := match A.2.1 with
  | .inr (2, k) :: r => if 1 ≤ k ∧ k ≤ 4 then (if f = 0 then ck_one (pc + 3) (ck_sk (.inr (2, k + 10) :: r) A) else ck_one (pc + 3) (ck_sk (ck_kc 0 :: r) A)) else none
  | _ => none
def ck_wt (st : List ck_V) : Nat := (st.map (fun v => if ck_two v = true then 2 else 1)).sum
def ck_cpy (SP : List ck_C) (Mo : List Nat) (pc : Nat) (A : ck_S) : ck_R := match A.2.1 with
  | .inl n :: .inl dp :: .inr (1, a) :: .inl sp :: .inr (1, a0) :: r => (match ck_at SP a0, ck_at SP a with
    | some (.inl (0, n0, l0, h0, _)), some (.inl (0, n1, l1, h1, _)) => if (0 ≤ sp.1 ∧ 0 ≤ dp.1 ∧ 0 ≤ n.1) ∧ (sp.2.1 + n.2.1 ≤ n0 ∧ dp.2.1 + n.2.1 ≤ n1) ∧ (l1 ≤ l0 ∧ h0 ≤ h1) ∧ ck_wt r ≤ 8 ∧ Mo.contains (ck_key a 63) = true then ck_one (pc + 3) (ck_sk r A) else none
    | _, _ => none)
  | _ => none
def ck_sp (SP : List ck_C) (Mo : List Nat) (nL : Nat) (e : ab_I) (pc : Nat) (A : ck_S) : ck_R := match e.1 with
  | .iconst n => ck_one (pc + 1) (ck_pu (ck_kc (Int32.ofInt n).toInt) A)
  | .bipush n => ck_one (pc + 2) (ck_pu (ck_kc (Int8.ofInt n).toInt32.toInt) A)
  | .sipush n => ck_one (pc + 3) (ck_pu (ck_kc (Int16.ofInt n).toInt32.toInt) A)
  | .lconst _ => ck_one (pc + 1) (ck_pu (.inr (0, 0)) A)
  | .ldc _ => if e.2.2.1 = 7 then (if e.2.2.2.1 < 4 then ck_one (pc + 2) (ck_pu (.inr (2, e.2.2.2.1 + 1)) A) else none) else ck_one (pc + 2) (ck_pu (ck_kc (Int32.ofInt e.2.2.2.2.2.1).toInt) A)
  | .ldc_w _ => ck_one (pc + 3) (ck_pu (ck_kc (Int32.ofInt e.2.2.2.2.2.1).toInt) A)
  | .ldc2_w _ => ck_one (pc + 3) (ck_pu (.inr (0, 0)) A)
  | .iload_n k => ck_ld 0 k.val 1 pc A
  | .iload i => ck_ld 0 i 2 pc A
  | .lload_n k => ck_ld 1 k.val 1 pc A
  | .lload i => ck_ld 1 i 2 pc A
  | .aload_n k => ck_ld 2 k.val 1 pc A
  | .aload i => ck_ld 2 i 2 pc A
  | .istore_n k => ck_sto nL 0 k.val 1 pc A
  | .istore i => ck_sto nL 0 i 2 pc A
  | .lstore_n k => ck_sto nL 1 k.val 1 pc A
  | .lstore i => ck_sto nL 1 i 2 pc A
  | .astore_n k => ck_sto nL 2 k.val 1 pc A
  | .astore i => ck_sto nL 2 i 2 pc A
  | .iinc i n => ck_inc nL i n pc A
  | .iadd => ck_b2 ck_add pc A
  | .isub => ck_b2 ck_sub pc A
  | .imul => ck_b2 ck_mul pc A
  | .iand => ck_b2 (fun p x y A => ck_cc (fun x y => x &&& y) p x y A (ck_and p x y A)) pc A
  | .ior => ck_b2 (fun p x y A => ck_cc (fun x y => x ||| y) p x y A (ck_or p x y A)) pc A
  | .ixor => ck_b2 (fun p x y A => ck_cc (fun x y => x ^^^ y) p x y A (ck_or p x y A)) pc A
  | .ishl => ck_b2 (fun p x y A => ck_cc (fun x y => x <<< (y &&& 31)) p x y A (ck_shl p x y A)) pc A
  | .ishr => ck_b2 ck_shr pc A
  | .iushr => ck_b2 ck_shr pc A
  | .idiv => ck_b2 ck_div pc A
  | .irem => ck_b2 ck_rem pc A
  | .ineg => ck_neg pc A
  | .i2b => ck_nar (-128) 127 pc A
  | .i2s => ck_nar (-32768) 32767 pc A
  | .i2c => ck_nar 0 65535 pc A
  | .i2l => ck_il pc A
  | .l2i => ck_li pc A
  | .ladd => ck_l2 pc A
  | .lsub => ck_l2 pc A
  | .lmul => ck_l2 pc A
  | .land => ck_l2 pc A
  | .lor => ck_l2 pc A
  | .lxor => ck_l2 pc A
  | .lcmp => ck_lc pc A
  | .lshl => ck_ls pc A
  | .lshr => ck_ls pc A
  | .lushr => ck_ls pc A
  | .dup => ck_dup pc A
  | .pop => ck_pop pc A
  | .dup_x1 => ck_dx1 pc A
  | .dup2 => ck_d2 pc A
  | .ifCond c off => ck_if c off pc A
  | .if_icmp c off => ck_ic2 c off pc A
  | .goto off => ck_to pc off (some A)
  | .tableswitch d lo hi offs => ck_tsw d lo hi offs pc A
  | .lookupswitch d ps => ck_lsw d ps pc A
  | .getfield _ => if e.2.2.1 = 20 then ck_gx e.2.2.2.1 pc A else ck_get SP e.2.2.1 e.2.2.2.1 pc A
  | .getstatic _ => ck_gs e.2.2.1 pc A
  | .putfield _ => ck_put SP Mo e.2.2.1 e.2.2.2.1 pc A
  | .invokestatic _ => if e.2.2.1 = 8 then ck_cpy SP Mo pc A else none
  | .iaload => ck_ial SP [0] pc A
  | .baload => ck_ial SP [1, 3] pc A
  | .laload => ck_ial SP [2] pc A
  | .aaload => ck_ial SP [4] pc A
  | .arraylength => ck_len SP pc A
  | .iastore => ck_ias SP Mo [0] pc A
  | .bastore => ck_ias SP Mo [1, 3] pc A
  | .lastore => ck_ias SP Mo [2] pc A
  | _ => none
/-- after a call: the fields that it may write are forgotten, those it speaks of are new symbols -/
def ck_new (fs : List (Nat × Int × Int)) (A : ck_S) : ck_S := fs.foldl (fun A q => (A.1, A.2.1, ck_set q.1 (q.2.1, q.2.2, A.2.2.2, 0) A.2.2.1, A.2.2.2 + 1)) A
def ck_ret (K : ck_K) (rest : List ck_V) (A : ck_S) : ck_S :=
  let B := ck_new K.2.2.2.2.2.1 (A.1, rest, A.2.2.1.filter (fun q => !(K.2.2.2.2.1.contains q.1)), A.2.2.2)
  match K.2.2.2.1 with
  | none => B
  | some (.inl v) => ck_fr v.1 v.2.1 B
  | some (.inr q) => ck_pu (.inr q) B
/-- the first contract that fits -/
def ck_pick (SP : List ck_C) (mi : Nat) (args : List ck_V) (A : ck_S) : List ck_K → Option ck_K
  | [] => none
  | K :: r => if K.1 = mi ∧ ck_les args K.2.1 = true ∧ ck_fo SP A K.2.2.1 = true then some K else ck_pick SP mi args A r
/-- a call: its contract and what stays on the stack -/
def ck_call (SP : List ck_C) (Mo : List Nat) (KS : List ck_K) (d : Nat) (it : ab_I) (A : ck_S) : Option (ck_K × List ck_V) := match ab_G it.2.2.2.1 with
  | none => none
  | some M => if (A.2.1.take it.2.2.2.2.1).length = it.2.2.2.2.1 then
      (match (if it.2.2.1 = 1 ∨ it.2.2.1 = 3 then (if M.2.2.2.2.1.1 = 1 then some ((A.2.1.take it.2.2.2.2.1).reverse, A.2.1.drop it.2.2.2.2.1) else none)
        else (match A.2.1.drop it.2.2.2.2.1 with
          | .inr (1, a) :: rest => if it.2.2.1 = 0 then (match ck_at SP a with
              | some (.inr (ci, _)) => if ci = M.2.2.2.2.1.2.1 ∧ M.2.2.2.2.1.1 = 0 then some (.inr (1, a) :: (A.2.1.take it.2.2.2.2.1).reverse, rest) else none
              | _ => none) else none
          | .inr (2, k) :: rest => if it.2.2.1 = 9 ∧ (1 ≤ k ∧ k ≤ 4) ∧ M.2.2.2.2.1.1 = 3 then some (.inr (2, k) :: (A.2.1.take it.2.2.2.2.1).reverse, rest) else none
          | _ => none)) with
      | none => none
      | some q => if ck_wt q.1 ≤ M.2.2.1 ∧ ck_wt q.2 ≤ 8 then (match ck_pick SP it.2.2.2.1 q.1 A KS with
        | some K => if K.2.2.2.2.1.all (fun k => Mo.contains k) = true ∧ K.2.2.2.2.2.2 + 1 ≤ d then some (K, q.2) else none
        | none => none) else none) else none
/-- a return: the answer and the fields as the contract says -/
def ck_rt (SP : List ck_C) (K : ck_K) (M : ab_M) (it : ab_I) (A : ck_S) : Bool := ck_fo SP A K.2.2.2.2.2.1 && (match it.1 with
  | .ireturn => (match A.2.1, M.2.2.2.1, K.2.2.2.1 with
    | [.inl v], some ty, some w => ck_fit ty v.1 v.2.1 && ck_le (.inl v) w
    | _, _, _ => false)
  | .lreturn => (match A.2.1, K.2.2.2.1 with
    | [.inr q], some w => decide (q.1 = 0) && (decide (M.2.2.2.1 = some .long) && ck_le (.inr q) w)
    | _, _ => false)
  | .return_ => (match A.2.1, K.2.2.2.1 with
    | [], none => decide (M.2.2.2.1 = none)
    | _, _ => false)
  | _ => false)
def ck_nxt (SP : List ck_C) (an : List ck_A) (a : ck_A) (go : Nat → ck_S → Bool) (q : Nat × ck_S) : Bool := if (an.any (fun b => b.1 == q.1)) = true then an.any (fun b => b.1 == q.1 && ck_lt SP a b q.2) else go q.1 q.2
def ck_run (SP : List ck_C) (KS : List ck_K) (K : ck_K) (M : ab_M) (an : List ck_A) (a : ck_A) : Nat → Nat → ck_S → Bool
  | 0, _, _ => false
  | n + 1, pc, A => match ab_at M.2.2.2.2.2 pc with
    | none => false
    | some it => match ab_kd it with
      | 0 => (match ck_sp SP K.2.2.2.2.1 M.2.2.1 it pc A with
        | none => false
        | some l => l.all (ck_nxt SP an a (ck_run SP KS K M an a n)))
      | 1 => ck_rt SP K M it A
      | 2 => (match ck_call SP K.2.2.2.2.1 KS K.2.2.2.2.2.2 it A with
        | none => false
        | some q => ck_nxt SP an a (ck_run SP KS K M an a n) (pc + 3, ck_ret q.1 q.2 A))
      | 4 => (match ck_sp SP K.2.2.2.2.1 M.2.2.1 it pc A with
        | none => false
        | some l => l.all (ck_nxt SP an a (ck_run SP KS K M an a n)) && decide (1 ≤ K.2.2.2.2.2.2))
      | _ => false
/-- the measure is never below 0 at an annotated place -/
def ck_pos (a : ck_A) : Bool := match a.2.2.1.foldr (fun q (acc : Option Int) => match acc, ck_tm a.2.1 q.1 with
    | some s, some v => some (s - ck_ub (-q.2) v)
    | _, _ => none) (some 0) with
  | some s => decide (0 ≤ s + a.2.2.2)
  | none => false
/-- the entry of a contract -/
def ck_args : Nat → List ck_V → List (Nat × ck_V)
  | _, [] => []
  | i, v :: r => (i, v) :: ck_args (i + (if ck_two v = true then 2 else 1)) r
def ck_ent (K : ck_K) : ck_S := (ck_args 0 K.2.1, [], K.2.2.1.map (fun q => (q.1, (q.2.1, q.2.2, 0, 0))), 1)
/-- a contract, held by the checker: the place 0 is annotated first, with the entry -/
def ck_one_ok (SP : List ck_C) (KS : List ck_K) (K : ck_K) (an : List ck_A) (n : Nat) : Bool := match ab_G K.1, an with
  | some M, a0 :: _ => decide (a0.1 = 0) && (ck_sub2 SP (ck_ent K) a0.2.1 && an.all (fun a => ck_pos a && (a.2.1.1.all (fun q => decide (q.1 < 64)) && ck_run SP KS K M an a n a.1 (ck_base a.2.1))))
  | _, _ => false
/-- all contracts, each by those before it (the list is the last first) -/
def ck_ok (SP : List ck_C) (n : Nat) : List (ck_K × List ck_A) → Bool
  | [] => true
  | q :: r => ck_ok SP n r && ck_one_ok SP (r.map (fun p => p.1)) q.1 q.2 n
