/-! ===== contracts, annotated places, the run ===== -/
/-- method; state before (stack: the arguments); what it may write; frames; states behind (stack: the answer) -/
abbrev sx_KK : Type := Nat × sx_S × List Nat × Nat × List sx_S
/-- place; state; measure -/
abbrev sx_AA : Type := Nat × sx_S × sx_E
def sx_lus (s : Nat) : List (Nat × sx_E) → Option sx_E
  | [] => none
  | q :: r => if q.1 = s then some q.2 else sx_lus s r
def sx_sm (n0 : Nat) (m : List (Nat × sx_E)) (s : Nat) : sx_E := if s < n0 then sx_Y s else (match sx_lus s m with
  | some e => e
  | none => (0, []))
def sx_bv (n0 : Nat) (pv av : sx_V) (m : List (Nat × sx_E)) : List (Nat × sx_E) := match pv, av with
  | .inl (_, (0, [(s, 1)])), .inl (_, e) => if n0 ≤ s ∧ (sx_lus s m).isNone = true then (s, e) :: m else m
  | _, _ => m
def sx_bst (n0 : Nat) : List sx_V → List sx_V → List (Nat × sx_E) → List (Nat × sx_E)
  | p :: r, a :: q, m => sx_bst n0 r q (sx_bv n0 p a m)
  | _, _, m => m
def sx_bls (n0 : Nat) (as : List (Nat × sx_V)) : List (Nat × sx_V) → List (Nat × sx_E) → List (Nat × sx_E)
  | [], m => m
  | q :: r, m => sx_bls n0 as r (match sx_lk q.1 as with
    | some v => sx_bv n0 q.2 v m
    | none => m)
def sx_bel (n0 : Nat) (as : List (Nat × sx_E × sx_V)) : List (Nat × sx_E × sx_V) → List (Nat × sx_E) → List (Nat × sx_E)
  | [], m => m
  | q :: r, m => sx_bel n0 as r (match sx_le2 q.1 (sx_sb (sx_sm n0 m) q.2.1) as with
    | some v => sx_bv n0 q.2.2 v m
    | none => m)
/-- what the symbols of B are, in A -/
def sx_bind (n0 : Nat) (A B : sx_S) : List (Nat × sx_E) := sx_bel n0 A.2.2.2.1 B.2.2.2.1 (sx_bls n0 A.2.2.1 B.2.2.1 (sx_bst n0 B.2.1 A.2.1 (sx_bls n0 A.1 B.1 [])))
def sx_ve (A : sx_S) (σ : Nat → sx_E) (pv av : sx_V) : Bool := match pv, av with
  | .inl (k, e), .inl (k', e') => decide (k = k' ∧ k ≤ 1) && (decide (sx_sb σ e = e') || sx_in A 0 0 (sx_sub (sx_sb σ e) e'))
  | .inr p, .inr q => decide (p = q)
  | _, _ => false
def sx_ves (A : sx_S) (σ : Nat → sx_E) : List sx_V → List sx_V → Bool
  | [], [] => true
  | p :: r, a :: q => sx_ve A σ p a && sx_ves A σ r q
  | _, _ => false
def sx_ck1 (A : sx_S) (σ : Nat → sx_E) (as bs : List (Nat × sx_V)) : Bool := bs.all (fun q => match sx_lk q.1 as with
  | some v => sx_ve A σ q.2 v
  | none => false)
/-- A is as B says -/
def sx_chk (A : sx_S) (σ : Nat → sx_E) (B : sx_S) : Bool := sx_ck1 A σ A.1 B.1 && (sx_ves A σ B.2.1 A.2.1 && (sx_ck1 A σ A.2.2.1 B.2.2.1 && (B.2.2.2.1.all (fun q => match sx_le2 q.1 (sx_sb σ q.2.1) A.2.2.2.1 with
  | some v => sx_ve A σ q.2.2 v
  | none => false) && (B.2.2.2.2.1.all (fun q => sx_in A q.2.1 q.2.2 (σ q.1)) && B.2.2.2.2.2.1.all (fun f => sx_le A (sx_sb σ f))))))
def sx_wE (n : Nat) (e : sx_E) : Bool := e.2.all (fun t => decide (t.1 < n))
def sx_wV (n : Nat) (v : sx_V) : Bool := match v with
  | .inl q => sx_wE n q.2
  | .inr _ => true
def sx_wS (A : sx_S) : Bool := A.1.all (fun q => sx_wV (sx_nx A) q.2) && (A.2.1.all (sx_wV (sx_nx A)) && (A.2.2.1.all (fun q => sx_wV (sx_nx A) q.2) && (A.2.2.2.1.all (fun q => sx_wE (sx_nx A) q.2.1 && sx_wV (sx_nx A) q.2.2) && (A.2.2.2.2.1.all (fun q => decide (q.1 < sx_nx A)) && A.2.2.2.2.2.1.all (sx_wE (sx_nx A))))))
/-- a field is made known -/
def sx_mat (SP : List sx_C) (key : Nat) (A : sx_S) : Option sx_S := match sx_lk key A.2.2.1 with
  | some _ => some A
  | none => (match sx_cel SP (key / 128) with
    | some (.inr (_, fs)) => (match fs[key % 128]? with
      | some f => (match f.1, f.2.2.2 with
        | 0, _ => some (sx_wf (sx_new f.2.1 f.2.2.1 A) ((key, .inl (0, sx_Y (sx_nx A))) :: A.2.2.1))
        | 1, _ => some (sx_wf (sx_new (-9223372036854775808) 9223372036854775807 A) ((key, .inl (1, sx_Y (sx_nx A))) :: A.2.2.1))
        | 2, [b] => some (sx_wf A ((key, .inr (1, b)) :: A.2.2.1))
        | _, _ => none)
      | none => none)
    | some (.inl (t, n, _, _)) => if key % 128 = 125 ∧ (t = 0 ∨ t = 1 ∨ t = 3) ∧ n ≤ 100000 then some (sx_wf (sx_new 0 n A) ((key, .inl (0, sx_Y (sx_nx A))) :: A.2.2.1)) else none
    | none => none)
def sx_mats (SP : List sx_C) : List Nat → sx_S → Option sx_S
  | [], A => some A
  | k :: r, A => match sx_mat SP k A with
    | some B => sx_mats SP r B
    | none => none
/-- A comes to the place of B, lower -/
def sx_arr (SP : List sx_C) (n0 : Nat) (B : sx_S) (mb : sx_E) (ma : Option sx_E) (A : sx_S) : Bool := match sx_mats SP (B.2.2.1.map (fun q => q.1)) A with
  | none => false
  | some A' => (fun m => sx_chk A' (sx_sm n0 m) B && (match ma with
    | none => true
    | some e => sx_le A' (sx_ak (sx_sub (sx_sb (sx_sm n0 m) mb) e) 1))) (sx_bind n0 A' B)
def sx_rfit (A : sx_S) (ty : FieldType) (e : sx_E) : Bool := match ty with
  | .int => true
  | .boolean => sx_in A 0 1 e
  | .byte => sx_in A (-128) 127 e
  | .char => sx_in A 0 65535 e
  | _ => false
def sx_rt (SP : List sx_C) (K : sx_KK) (M : ab_M) (it : ab_I) (A : sx_S) : Bool := (match it.1 with
  | .ireturn => (match A.2.1, M.2.2.2.1 with
    | [.inl (0, e)], some ty => sx_rfit A ty e
    | _, _ => false)
  | .lreturn => (match A.2.1 with
    | [.inl (1, _)] => decide (M.2.2.2.1 = some .long)
    | _ => false)
  | .return_ => (match A.2.1 with
    | [] => decide (M.2.2.2.1 = none)
    | _ => false)
  | _ => false) && K.2.2.2.2.any (fun O => sx_arr SP (sx_nx K.2.1) O (0, []) none A)
/-- a call's arguments and what stays -/
def sx_args (SP : List sx_C) (M : ab_M) (it : ab_I) (A : sx_S) : Option (List sx_V × List sx_V) := if (A.2.1.take it.2.2.2.2.1).length = it.2.2.2.2.1 then
    (if it.2.2.1 = 1 ∨ it.2.2.1 = 3 then (if M.2.2.2.2.1.1 = 1 then some ((A.2.1.take it.2.2.2.2.1).reverse, A.2.1.drop it.2.2.2.2.1) else none)
      else (match A.2.1.drop it.2.2.2.2.1 with
        | .inr (1, a) :: rest => if it.2.2.1 = 0 then (match sx_cel SP a with
            | some (.inr (ci, _)) => if ci = M.2.2.2.2.1.2.1 ∧ M.2.2.2.2.1.1 = 0 then some (.inr (1, a) :: (A.2.1.take it.2.2.2.2.1).reverse, rest) else none
            | _ => none) else none
        | .inr (2, k) :: rest => if it.2.2.1 = 9 ∧ (1 ≤ k ∧ k ≤ 4) ∧ M.2.2.2.2.1.1 = 3 then some (.inr (2, k) :: (A.2.1.take it.2.2.2.2.1).reverse, rest) else none
        | _ => none)) else none
def sx_fit1 (SP : List sx_C) (A : sx_S) (args : List sx_V) (K : sx_KK) : Option (sx_S × List (Nat × sx_E)) := match sx_mats SP (K.2.1.2.2.1.map (fun q => q.1)) A with
  | none => none
  | some A' => (fun m => if (sx_chk (sx_k args A') (sx_sm 0 m) K.2.1 && m.all (fun q => sx_wE (sx_nx A') q.2)) = true then some (A', m) else none) (sx_bind 0 (sx_k args A') K.2.1)
def sx_find (SP : List sx_C) (A : sx_S) (args : List sx_V) (Mo : List Nat) (d : Nat) : List sx_KK → Option (sx_KK × sx_S × List (Nat × sx_E))
  | [] => none
  | K :: r => if (K.2.2.1.all (fun k => Mo.contains k) && decide (K.2.2.2.1 + 1 ≤ d)) = true then (match sx_fit1 SP A args K with
    | some q => some (K, q)
    | none => sx_find SP A args Mo d r) else sx_find SP A args Mo d r
def sx_sbV (σ : Nat → sx_E) (v : sx_V) : sx_V := match v with
  | .inl q => .inl (q.1, sx_sb σ q.2)
  | .inr p => .inr p
def sx_so (K : sx_KK) (m : List (Nat × sx_E)) (b : Nat) (s : Nat) : sx_E := if s < sx_nx K.2.1 then sx_sm 0 m s else sx_Y (b + (s - sx_nx K.2.1))
/-- the state behind a call, by one of its ends -/
def sx_out (K : sx_KK) (m : List (Nat × sx_E)) (rest : List sx_V) (A O : sx_S) : Option sx_S :=
  sx_ass ((O.2.2.2.2.1.filter (fun q => decide (q.1 < sx_nx K.2.1))).flatMap (fun q => [sx_ak (sx_so K m (sx_nx A) q.1) (-q.2.2), sx_ak (sx_neg (sx_so K m (sx_nx A) q.1)) q.2.1]) ++ O.2.2.2.2.2.1.map (sx_sb (sx_so K m (sx_nx A))))
    (A.1, O.2.1.map (sx_sbV (sx_so K m (sx_nx A))) ++ rest, O.2.2.1.map (fun q => (q.1, sx_sbV (sx_so K m (sx_nx A)) q.2)) ++ A.2.2.1.filter (fun q => !(K.2.2.1.contains q.1) && !(q.1 % 128 == 127)), A.2.2.2.1.filter (fun q => !(K.2.2.1.contains (q.1 * 128 + 127))), (O.2.2.2.2.1.filter (fun q => !(decide (q.1 < sx_nx K.2.1)))).map (fun q => (sx_nx A + (q.1 - sx_nx K.2.1), q.2)) ++ A.2.2.2.2.1, A.2.2.2.2.2.1, sx_nx A + (sx_nx O - sx_nx K.2.1))
/-- the contracts of a method -/
abbrev sx_TT : Type := List (List (List sx_KK))
def sx_of (KT : sx_TT) (mi : Nat) : List sx_KK := match KT[mi / 16]? with
  | some l => (match l[mi % 16]? with
    | some q => q
    | none => [])
  | none => []
def sx_call (SP : List sx_C) (KT : sx_TT) (K : sx_KK) (it : ab_I) (A : sx_S) : Option (List sx_S) := match ab_G it.2.2.2.1 with
  | none => none
  | some M => (match sx_args SP M it A with
    | none => none
    | some q => if sx_wt q.1 ≤ M.2.2.1 ∧ sx_wt q.2 ≤ 8 then (match sx_find SP A q.1 K.2.2.1 K.2.2.2.1 (sx_of KT it.2.2.2.1) with
      | none => none
      | some f => if f.1.1 = it.2.2.2.1 then some (f.1.2.2.2.2.filterMap (fun O => sx_out f.1 f.2.2 q.2 f.2.1 O)) else none) else none)
def sx_nxt (SP : List sx_C) (n0 : Nat) (an : List sx_AA) (ma : Option sx_E) (go : Nat → sx_S → Bool) (q : Nat × sx_S) : Bool := if (an.any (fun b => b.1 == q.1)) = true then an.any (fun b => b.1 == q.1 && sx_arr SP n0 b.2.1 b.2.2 ma q.2) else go q.1 q.2
def sx_run (SP : List sx_C) (KT : sx_TT) (K : sx_KK) (M : ab_M) (an : List sx_AA) (ma : Option sx_E) : Nat → Nat → sx_S → Bool
  | 0, _, _ => false
  | n + 1, pc, A => match ab_at M.2.2.2.2.2 pc with
    | none => false
    | some it => match ab_kd it with
      | 0 => (match sx_sp SP K.2.2.1 M.2.2.1 it pc A with
        | none => false
        | some l => l.all (sx_nxt SP (sx_nx K.2.1) an ma (sx_run SP KT K M an ma n)))
      | 1 => sx_rt SP K M it A
      | 2 => (match sx_call SP KT K it A with
        | none => false
        | some l => l.all (fun B => sx_nxt SP (sx_nx K.2.1) an ma (sx_run SP KT K M an ma n) (pc + 3, B)))
      | 4 => (match sx_sp SP K.2.2.1 M.2.2.1 it pc A with
        | none => false
        | some l => l.all (sx_nxt SP (sx_nx K.2.1) an ma (sx_run SP KT K M an ma n)) && decide (1 ≤ K.2.2.2.1))
      | _ => false
def sx_argl : Nat → List sx_V → List (Nat × sx_V)
  | _, [] => []
  | i, v :: r => (i, v) :: sx_argl (if sx_two v = true then i + 2 else i + 1) r
def sx_ent0 (K : sx_KK) : sx_S := (sx_argl 0 K.2.1.2.1, [], K.2.1.2.2)
def sx_ent : List sx_E → sx_S → List sx_S
  | [], A => [A]
  | e :: r, A => (sx_ls (sx_as A e) ++ sx_ls (sx_as A (sx_ak (sx_neg e) 1))).flatMap (sx_ent r)
def sx_plok (n0 : Nat) (b : sx_AA) : Bool := sx_wS b.2.1 && (decide (n0 ≤ sx_nx b.2.1) && (sx_wE (sx_nx b.2.1) b.2.2 && sx_le b.2.1 (sx_neg b.2.2)))
/-- a contract, held by the checker -/
def sx_kok (SP : List sx_C) (KT : sx_TT) (K : sx_KK) (an : List sx_AA) (sp : List sx_E) (n : Nat) : Bool := match ab_G K.1 with
  | none => false
  | some M => (decide (K.2.1.1 = []) && sx_wS K.2.1) && ((K.2.2.2.2.all (fun O => sx_wS O && (decide (O.1 = []) && decide (sx_nx K.2.1 ≤ sx_nx O))) && sp.all (sx_wE (sx_nx K.2.1))) && (an.all (sx_plok (sx_nx K.2.1)) && ((sx_ent sp (sx_ent0 K)).all (sx_run SP KT K M an none n 0) && an.all (fun b => sx_run SP KT K M an (some b.2.2) n b.1 b.2.1))))
