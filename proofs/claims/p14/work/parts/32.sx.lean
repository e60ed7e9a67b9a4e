/-! ===== THE WIDER CHECKER: an int or a long is a linear form over symbols; a state has bounds of symbols, facts (forms that are at most 0), known fields and elements ===== -/
abbrev sx_T : Type := List (Nat × Int)
abbrev sx_E : Type := Int × sx_T
/-- .inl (0, e) an int, (1, e) a long, (2, e) the sign of e; .inr (1, a) the cell a, (2, k) the outside constant k -/
abbrev sx_V : Type := (Nat × sx_E) ⊕ (Nat × Nat)
abbrev sx_N : Type := List (Nat × Int × Int)
/-- locals; stack; fields by cell * 128 + field; elements (cell, place, value); bounds; facts; next symbol -/
abbrev sx_S : Type := List (Nat × sx_V) × List sx_V × List (Nat × sx_V) × List (Nat × sx_E × sx_V) × sx_N × List sx_E × Nat
/-- a field's words: 0 an int in lo .. hi, 1 a long, 2 one of the cells, 3 anything -/
abbrev sx_F : Type := Nat × Int × Int × List Nat
/-- a cell's words: an array (type, length, pieces, cells) or an object (number, fields) -/
abbrev sx_C : Type := (Nat × Nat × List (Int × Int) × List Nat) ⊕ (Nat × List sx_F)
def sx_ts (β : Nat → Int) : sx_T → Int
  | [] => 0
  | t :: r => t.2 * β t.1 + sx_ts β r
def sx_ev (β : Nat → Int) (e : sx_E) : Int := e.1 + sx_ts β e.2
def sx_ins (s : Nat) (c : Int) : sx_T → sx_T
  | [] => if c = 0 then [] else [(s, c)]
  | t :: r => if t.1 = s then (if t.2 + c = 0 then r else (s, t.2 + c) :: r) else (if s < t.1 then (if c = 0 then t :: r else (s, c) :: t :: r) else t :: sx_ins s c r)
def sx_adt (k : Int) (a b : sx_T) : sx_T := b.foldr (fun t acc => sx_ins t.1 (k * t.2) acc) a
def sx_add (a b : sx_E) : sx_E := (a.1 + b.1, sx_adt 1 a.2 b.2)
def sx_sub (a b : sx_E) : sx_E := (a.1 - b.1, sx_adt (-1) a.2 b.2)
def sx_mk (k : Int) (a : sx_E) : sx_E := if k = 0 then (0, []) else (k * a.1, a.2.map (fun t => (t.1, k * t.2)))
def sx_neg (a : sx_E) : sx_E := sx_mk (-1) a
def sx_ak (a : sx_E) (k : Int) : sx_E := (a.1 + k, a.2)
def sx_K (k : Int) : sx_E := (k, [])
def sx_Y (s : Nat) : sx_E := (0, [(s, 1)])
def sx_sbt (σ : Nat → sx_E) : sx_T → sx_E
  | [] => (0, [])
  | t :: r => sx_add (sx_sbt σ r) (sx_mk t.2 (σ t.1))
def sx_sb (σ : Nat → sx_E) (e : sx_E) : sx_E := sx_ak (sx_sbt σ e.2) e.1
/-! bounds -/
def sx_lu (s : Nat) : sx_N → Option (Int × Int)
  | [] => none
  | q :: r => if q.1 = s then some q.2 else sx_lu s r
def sx_bh (N : sx_N) : sx_T → Int → Option Int
  | [], a => some a
  | t :: r, a => match sx_lu t.1 N with
    | none => none
    | some b => sx_bh N r (a + t.2 * (if 0 < t.2 then b.2 else b.1))
def sx_min (a b : Option Int) : Option Int := match a, b with
  | none, b => b
  | a, none => a
  | some x, some y => some (if y < x then y else x)
def sx_co (s : Nat) : sx_T → Int
  | [] => 0
  | t :: r => if t.1 = s then t.2 else sx_co s r
def sx_sh (e f : sx_T) : Bool := f.any (fun t => decide (0 < t.2 * sx_co t.1 e))
/-- how often f goes into e, by the first symbol of one sign -/
def sx_mu (e : sx_T) : sx_T → Int
  | [] => 0
  | t :: r => if 0 < t.2 * sx_co t.1 e then (if (sx_co t.1 e).natAbs / t.2.natAbs = 0 then 1 else (((sx_co t.1 e).natAbs / t.2.natAbs : Nat) : Int)) else sx_mu e r
def sx_hi (N : sx_N) (fa : List sx_E) (e : sx_E) : Option Int := match e.2 with
  | [] => some e.1
  | _ => fa.foldl (fun b f => if sx_sh e.2 f.2 = true then sx_min b (sx_bh N (sx_adt (-(sx_mu e.2 f.2)) e.2 f.2) (e.1 - sx_mu e.2 f.2 * f.1)) else b) (sx_bh N e.2 e.1)
def sx_le1 (b : Option Int) (k : Int) : Bool := match b with
  | some x => decide (x ≤ k)
  | none => false
def sx_leN (N : sx_N) (fa : List sx_E) : Nat → sx_E → Bool
  | 0, e => sx_le1 (sx_hi N fa e) 0
  | n + 1, e => sx_le1 (sx_hi N fa e) 0 || (match e.2 with
    | [] => false
    | _ => fa.any (fun f => sx_sh e.2 f.2 && sx_leN N fa n (sx_sub e (sx_mk (sx_mu e.2 f.2) f))))
/-- e ≤ 0, for sure -/
def sx_le (A : sx_S) (e : sx_E) : Bool := sx_leN A.2.2.2.2.1 A.2.2.2.2.2.1 3 e || A.2.2.2.2.2.1.any (fun f => sx_sh e.2 f.2 && sx_le1 (sx_hi A.2.2.2.2.1 A.2.2.2.2.2.1 (sx_sub (sx_mk 2 e) f)) 1)
def sx_up (A : sx_S) (e : sx_E) : Option Int := sx_hi A.2.2.2.2.1 A.2.2.2.2.2.1 e
def sx_lo (A : sx_S) (e : sx_E) : Option Int := match sx_up A (sx_neg e) with
  | some x => some (-x)
  | none => none
/-- lo ≤ e ≤ hi, for sure -/
def sx_in (A : sx_S) (l h : Int) (e : sx_E) : Bool := sx_le A (sx_ak e (-h)) && sx_le A (sx_ak (sx_neg e) l)
def sx_set (s : Nat) (l h : Int) : sx_N → sx_N
  | [] => [(s, l, h)]
  | q :: r => if q.1 = s then (s, l, h) :: r else q :: sx_set s l h r
/-- narrower bounds, where e ≤ 0 -/
def sx_nr1 (e : sx_E) (N : sx_N) (t : Nat × Int) : sx_N := match sx_bh N (sx_mk (-1) (0, sx_ins t.1 (-t.2) e.2)).2 (-e.1), sx_lu t.1 N with
  | some l, some b => if 0 < t.2 then (if l / t.2 < b.2 then sx_set t.1 b.1 (l / t.2) N else N) else (if t.2 < 0 ∧ b.1 < -(l / (-t.2)) then sx_set t.1 (-(l / (-t.2))) b.2 N else N)
  | _, _ => N
def sx_nr (e : sx_E) (N : sx_N) : sx_N := e.2.foldl (sx_nr1 e) N
def sx_void (N : sx_N) (e : sx_E) : Bool := e.2.any (fun t => match sx_lu t.1 N with
  | some b => decide (b.2 < b.1)
  | none => false)
def sx_wn (A : sx_S) (N : sx_N) (fa : List sx_E) : sx_S := (A.1, A.2.1, A.2.2.1, A.2.2.2.1, N, fa, A.2.2.2.2.2.2)
/-- A where e ≤ 0 -/
def sx_as (A : sx_S) (e : sx_E) : Option sx_S :=
  if sx_le1 (sx_up A (sx_neg e)) (-1) = true then none else
  if sx_le1 (sx_up A e) 0 = true then some A else
  (let N := sx_nr e A.2.2.2.2.1
   if sx_void N e = true then none else some (sx_wn A N (match e.2 with
    | _ :: _ :: _ => A.2.2.2.2.2.1 ++ [e]
    | _ => A.2.2.2.2.2.1)))
def sx_ass : List sx_E → sx_S → Option sx_S
  | [], A => some A
  | e :: r, A => match sx_as A e with
    | none => none
    | some B => sx_ass r B
def sx_ls (q : Option sx_S) : List sx_S := match q with
  | some A => [A]
  | none => []
/-- the states where 'e c 0' -/
def sx_cd (c : ClassFile.Cond) (e : sx_E) (A : sx_S) : List sx_S := match c with
  | .eq => sx_ls (sx_ass [e, sx_neg e] A)
  | .lt => sx_ls (sx_as A (sx_ak e 1))
  | .le => sx_ls (sx_as A e)
  | .gt => sx_ls (sx_as A (sx_ak (sx_neg e) 1))
  | .ge => sx_ls (sx_as A (sx_neg e))
  | .ne => (match sx_lo A e, sx_up A e with
    | some l, some h => if 0 ≤ l then sx_ls (sx_as A (sx_ak (sx_neg e) 1)) else (if h ≤ 0 then sx_ls (sx_as A (sx_ak e 1)) else (if -65536 ≤ l ∧ h ≤ 65536 then sx_ls (sx_as A (sx_ak e 1)) ++ sx_ls (sx_as A (sx_ak (sx_neg e) 1)) else [A]))
    | _, _ => [A])
/-! what a run's state and a checker's state have in common -/
def sx_v (β : Nat → Int) (v : sx_V) (w : Value) : Prop := match v, w with
  | .inl (0, e), .int x => x.toInt = sx_ev β e
  | .inl (1, e), .long x => x.toInt = sx_ev β e
  | .inl (2, e), .int x => ∀ c : ClassFile.Cond, ab_ci c x.toInt 0 ↔ ab_ci c (sx_ev β e) 0
  | .inr (1, a), .ref b => a = b
  | .inr (2, k), .retAddr j => k = j
  | _, _ => False
def sx_st (β : Nat → Int) : List sx_V → List Value → Prop
  | [], [] => True
  | v :: r, w :: q => sx_v β v w ∧ sx_st β r q
  | _, _ => False
def sx_zs (f : Nat → Int32) : Nat → Nat
  | 0 => 0
  | n + 1 => (if f n = 0 then 1 else 0) + sx_zs f n
def sx_fd (h : ab_H) (key : Nat) : Option Value := match ab_rd h (key / 128) with
  | some (.inr (_, ws)) => ws[key % 128]?
  | some (.inl (_, n, .inl f)) => if key % 128 = 126 then some (.int (Int32.ofNat n)) else (if key % 128 = 125 then some (.int (Int32.ofNat (sx_zs f n))) else none)
  | _ => none
def sx_el (β : Nat → Int) (q : Nat × sx_E × sx_V) (h : ab_H) : Prop := match ab_rd h q.1 with
  | some (.inl (_, n, .inl f)) => 0 ≤ sx_ev β q.2.1 ∧ sx_ev β q.2.1 < n ∧ sx_v β q.2.2 (.int (f (sx_ev β q.2.1).toNat))
  | some (.inl (_, n, .inr (.inl f))) => 0 ≤ sx_ev β q.2.1 ∧ sx_ev β q.2.1 < n ∧ sx_v β q.2.2 (.long (f (sx_ev β q.2.1).toNat))
  | _ => False
def sx_pc (ps : List (Int × Int)) (x : Int) : Prop := ∃ p ∈ ps, p.1 ≤ x ∧ x ≤ p.2
def sx_fv (f : sx_F) (w : Value) : Prop := match f.1 with
  | 0 => ∃ x, w = .int x ∧ f.2.1 ≤ x.toInt ∧ x.toInt ≤ f.2.2.1
  | 1 => ∃ x, w = .long x
  | 2 => ∃ a, w = .ref a ∧ a ∈ f.2.2.2
  | _ => True
def sx_c (c : sx_C) (e : ab_E) : Prop := match c, e with
  | .inl (t, n, ps, _), .inl (t', n', .inl f) => t = t' ∧ n = n' ∧ (t = 0 ∨ t = 1 ∨ t = 3) ∧ ∀ j, j < n → sx_pc ps (f j).toInt
  | .inl (t, n, _, _), .inl (t', n', .inr (.inl _)) => t = t' ∧ n = n' ∧ t = 2
  | .inl (t, n, _, cs), .inl (t', n', .inr (.inr f)) => t = t' ∧ n = n' ∧ t = 4 ∧ ∀ j, j < n → ∃ a, f j = some a ∧ cs[j]? = some a
  | .inr (ci, fs), .inr (cj, ws) => ci = cj ∧ fs.length = ws.length ∧ ∀ (k : Nat) (f : sx_F) (w : Value), fs[k]? = some f → ws[k]? = some w → sx_fv f w
  | _, _ => False
/-- the heap: as many cells and slots, the script, each cell by its words -/
def sx_h (SP : List sx_C) (z : Nat) (L : Nat) (xs : Nat → Int32) (h : ab_H) : Prop := h.1 = SP.length + 1 ∧ h.2.1 = z ∧ h.2.2 0 = .inl (0, L, .inl xs) ∧ ∀ (k : Nat) (c : sx_C), SP[k]? = some c → sx_c c (h.2.2 (k + 1))
/-- what of a heap a method leaves alone -/
def sx_ob (h : ab_H) (key : Nat) : Option (Value ⊕ ab_E) := if key % 128 = 127 then (match h.2.2 (key / 128) with
    | .inl q => some (.inr (.inl q))
    | .inr _ => none) else (match sx_fd h key with
    | some v => some (.inl v)
    | none => none)
def sx_fr (Mo : List Nat) (h h' : ab_H) : Prop := ∀ key, Mo.contains key = false → sx_ob h key = sx_ob h' key
