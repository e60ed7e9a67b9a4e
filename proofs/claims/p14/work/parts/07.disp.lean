/-! ===== what a program's rows must be; the run; its soundness ===== -/
def ab_so (G : Nat → Option ab_M) (M : ab_M) (pc : Nat) (it : ab_I) : Prop :=
  decode M.2.1 pc = .ok (it.1, it.2.1) ∧ it.2.1 = ab_ln it.1 it.2.1 ∧ (match it.1 with
  | .ldc i => (it.2.2.1 = 7 ∧ M.1.cls = RX4 ∧ i = (ab_si it.2.2.2.1).1) ∨ (it.2.2.1 ≠ 7 ∧ Cond.constant M.1.cls i (Int32.ofInt it.2.2.2.2.2.1) ∈ ab_tb)
  | .ldc_w i => Cond.constant M.1.cls i (Int32.ofInt it.2.2.2.2.2.1) ∈ ab_tb
  | .ldc2_w i => Cond.constantLong M.1.cls i (Int64.ofInt it.2.2.2.2.2.1) ∈ ab_tb
  | .ifCond _ off => 0 ≤ (pc : Int) + off
  | .if_icmp _ off => 0 ≤ (pc : Int) + off
  | .getfield i => (it.2.2.1 = 20 ∧ ((it.2.2.2.1 = 0 ∧ Cond.fieldLink M.1.cls i "java/lang/String" "value" "[B" ∈ ab_tb) ∨ (it.2.2.2.1 = 1 ∧ Cond.fieldLink M.1.cls i "java/lang/String" "coder" "B" ∈ ab_tb))) ∨ (it.2.2.1 ≠ 20 ∧ ∃ Cn T N, ab_cl[it.2.2.1]? = some (Cn, T, N) ∧ it.2.2.2.1 < N ∧ Cond.fieldLink M.1.cls i (T it.2.2.2.1).1 (T it.2.2.2.1).2.1 (T it.2.2.2.1).2.2.1 ∈ ab_tb)
  | .getstatic i => (it.2.2.1 = 0 ∧ Cond.fieldLink M.1.cls i RX8 "HIGH" "[J" ∈ ab_tb) ∨ (it.2.2.1 = 1 ∧ Cond.fieldLink M.1.cls i "java/lang/String" "COMPACT_STRINGS" "Z" ∈ ab_tb) ∨ (it.2.2.1 = 2 ∧ Cond.fieldLink M.1.cls i "jdk/internal/util/Preconditions" "SIOOBE_FORMATTER" "Ljava/util/function/BiFunction;" ∈ ab_tb)
  | .putfield i => ∃ Cn T N, ab_cl[it.2.2.1]? = some (Cn, T, N) ∧ it.2.2.2.1 < N ∧ Cond.fieldLink M.1.cls i (T it.2.2.2.1).1 (T it.2.2.2.1).2.1 (T it.2.2.2.1).2.2.1 ∈ ab_tb ∧ ((T it.2.2.2.1).2.2.2 = true → M.1.name = "<init>" ∧ (T it.2.2.2.1).1 = M.1.cls)
  | .new i => ∃ Cn T N, ab_cl[it.2.2.1]? = some (Cn, T, N) ∧ Cond.classLink M.1.cls i Cn ∈ ab_tb
  | .newarray t => Cond.arrayClass (newarray.typeOf t) ∈ ab_tb
  | .anewarray i => Cond.classLink M.1.cls i RX6 ∈ ab_tb
  | .invokevirtual i => (it.2.2.1 = 0 ∨ it.2.2.1 = 9) ∧ ∀ M', G it.2.2.2.1 = some M' → Cond.methodLink M.1.cls i M'.1 ∈ ab_tb ∧ (parseMethodDescriptor M'.1.desc).map (fun d => d.parameters.length) = some it.2.2.2.2.1
  | .invokestatic i => (it.2.2.1 = 8 ∧ Cond.methodLink M.1.cls i arraycopyName ∈ ab_tb) ∨ (it.2.2.1 = 1 ∧ ∀ M', G it.2.2.2.1 = some M' → Cond.methodLink M.1.cls i M'.1 ∈ ab_tb ∧ (parseMethodDescriptor M'.1.desc).map (fun d => d.parameters.length) = some it.2.2.2.2.1) ∨ (it.2.2.1 = 3 ∧ ∀ M', G it.2.2.2.1 = some M' → Cond.methodLinkNest M.1.cls i M'.1 RX9 ∈ lw_tbl ∧ (parseMethodDescriptor M'.1.desc).map (fun d => d.parameters.length) = some it.2.2.2.2.1)
  | .invokespecial i => (it.2.2.1 = 5 ∧ Cond.methodLink M.1.cls i Lib.objectInit ∈ ab_tb) ∨ (it.2.2.1 = 2 ∧ ∀ M', G it.2.2.2.1 = some M' → Cond.methodLink M.1.cls i M'.1 ∈ ab_tb ∧ (parseMethodDescriptor M'.1.desc).map (fun d => d.parameters.length) = some it.2.2.2.2.1) ∨ (it.2.2.1 = 4 ∧ ∀ M', G it.2.2.2.1 = some M' → Cond.methodLinkNest M.1.cls i M'.1 RX9 ∈ lw_tbl ∧ (parseMethodDescriptor M'.1.desc).map (fun d => d.parameters.length) = some it.2.2.2.2.1)
  | _ => True)
def ab_mo (M : ab_M) : Prop := Cond.code M.1 M.2.1 M.2.2.1 M.2.2.2.1 ∈ ab_tb ∧ Cond.initialized M.1.cls ∈ ab_tb ∧ M.1.cls ≠ "java/lang/invoke/MethodHandle" ∧ M.1.cls ≠ "java/lang/invoke/VarHandle" ∧ plainFor M.1 = true ∧ M.2.2.1 ≤ 41 ∧
  (M.2.2.2.2.1.1 = 0 → Cond.instanceMethod M.1 ∈ ab_tb ∧ Cond.selects M.1.cls M.1 M.1 ∈ ab_tb ∧ ∃ T N, ab_cl[M.2.2.2.2.1.2.1]? = some (M.1.cls, T, N)) ∧ (M.2.2.2.2.1.1 = 1 → Cond.static M.1 ∈ ab_tb) ∧ (M.2.2.2.2.1.1 = 2 → M.1.name = "<init>" ∧ Cond.instanceMethod M.1 ∈ ab_tb ∧ M.2.2.2.1 = none) ∧ (M.2.2.2.2.1.1 = 3 → Cond.instanceMethod M.1 ∈ ab_tb ∧ Cond.selects M.1.cls M.1 M.1 ∈ ab_tb ∧ M.1.cls = "java/lang/String")
def ab_ok (G : Nat → Option ab_M) (M : ab_M) : Prop := ab_mo M ∧ ∀ pc it, ab_at M.2.2.2.2.2 pc = some it → ab_so G M pc it
/-- a call's method, arguments, rest of the stack -/
def ab_cok (M : ab_M) (A rest : List Value) : Bool := decide ((lg_sl A).length ≤ M.2.2.1) && decide ((rest.map fun v => v.category).sum ≤ 8)
def ab_cal (G : Nat → Option ab_M) (it : ab_I) (st : List Value) (h : ab_H) : Option (ab_M × List Value × List Value) := match G it.2.2.2.1 with
  | none => none
  | some M => if (st.take it.2.2.2.2.1).length = it.2.2.2.2.1 then
      (if it.2.2.1 = 1 ∨ it.2.2.1 = 3 then (if M.2.2.2.2.1.1 = 1 ∧ ab_cok M (st.take it.2.2.2.2.1).reverse (st.drop it.2.2.2.2.1) = true then some (M, (st.take it.2.2.2.2.1).reverse, st.drop it.2.2.2.2.1) else none)
      else (match st.drop it.2.2.2.2.1 with
        | .ref a :: rest => if it.2.2.1 = 0 then (match ab_rd h a with
            | some (.inr (ci, _)) => if ci = M.2.2.2.2.1.2.1 ∧ M.2.2.2.2.1.1 = 0 ∧ ab_cok M (.ref a :: (st.take it.2.2.2.2.1).reverse) rest = true then some (M, .ref a :: (st.take it.2.2.2.2.1).reverse, rest) else none
            | _ => none)
          else (if (it.2.2.1 = 2 ∨ it.2.2.1 = 4) ∧ M.2.2.2.2.1.1 = 2 ∧ ab_cok M (.ref a :: (st.take it.2.2.2.2.1).reverse) rest = true then some (M, .ref a :: (st.take it.2.2.2.2.1).reverse, rest) else none)
        | .retAddr k :: rest => if it.2.2.1 = 9 ∧ (1 ≤ k ∧ k ≤ 4) ∧ M.2.2.2.2.1.1 = 3 ∧ ab_cok M (.retAddr k :: (st.take it.2.2.2.2.1).reverse) rest = true then some (M, .retAddr k :: (st.take it.2.2.2.2.1).reverse, rest) else none
        | _ => none))
    else none
def ab_kd (it : ab_I) : Nat := match it.1 with
  | .ireturn => 1
  | .lreturn => 1
  | .return_ => 1
  | .invokevirtual _ => 2
  | .invokestatic _ => if it.2.2.1 = 8 then 4 else 2
  | .invokespecial _ => if it.2.2.1 = 5 then 3 else 2
  | _ => 0
def ab_rt (M : ab_M) (it : ab_I) (st : List Value) (h : ab_H) : Option (Option Value × ab_H) := match it.1 with
  | .ireturn => (match st with
    | [.int v] => (match M.2.2.2.1 with
      | some ty => if narrow ty (.int v) = .int v then some (some (.int v), h) else none
      | none => none)
    | _ => none)
  | .lreturn => (match st with
    | [.long v] => if M.2.2.2.1 = some .long then some (some (.long v), h) else none
    | _ => none)
  | .return_ => (match st with
    | [] => if M.2.2.2.1 = none then some (none, h) else none
    | _ => none)
  | _ => none
def ab_oi (st : List Value) : Option (List Value) := match st with
  | .ref _ :: r => if (r.map fun v => v.category).sum ≤ 8 then some r else none
  | _ => none
def ab_ex (G : Nat → Option ab_M) : Nat → Nat → ab_M → Nat → ab_L → List Value → ab_H → Option (Option Value × ab_H)
  | 0, _, _, _, _, _, _ => none
  | n + 1, d, M, pc, lv, st, h => match ab_at M.2.2.2.2.2 pc with
    | none => none
    | some it => match ab_kd it with
      | 0 => (match ab_sp M.2.2.1 it pc lv st h with
        | none => none
        | some s => ab_ex G n d M s.1 s.2.1 s.2.2.1 s.2.2.2)
      | 1 => ab_rt M it st h
      | 2 => (match d with
        | 0 => none
        | d + 1 => (match ab_cal G it st h with
          | none => none
          | some q => (match ab_ex G n d q.1 0 (lv_args 0 q.2.1) [] h with
            | none => none
            | some r => ab_ex G n (d + 1) M (pc + 3) lv (r.1.toList ++ q.2.2) r.2)))
      | 4 => (match d with
        | 0 => none
        | d + 1 => (match ab_sp M.2.2.1 it pc lv st h with
          | none => none
          | some s => ab_ex G n (d + 1) M s.1 s.2.1 s.2.2.1 s.2.2.2))
      | _ => (match d with
        | 0 => none
        | d + 1 => (match ab_oi st with
          | none => none
          | some r => ab_ex G n (d + 1) M (pc + 3) lv r h))
theorem ab_m_jp {pc : Nat} {off : Int} {lv : ab_L} {st : List Value} {h : ab_H} {s' : ab_S} (hs : ab_jp pc off lv st h = some s') : h.1 ≤ s'.2.2.2.1 ∧ h.2.1 ≤ s'.2.2.2.2.1 := by
  obtain ⟨pc', lv', st', h'⟩ := s'
  obtain ⟨-, -, -, rfl⟩ := ab_jp_of hs
  exact ⟨Nat.le_refl _, Nat.le_refl _⟩
theorem ab_m_k {n pc : Nat} {v : Value} {lv : ab_L} {st : List Value} {h : ab_H} {s' : ab_S} (hs : ab_k n pc v lv st h = some s') : h.1 ≤ s'.2.2.2.1 ∧ h.2.1 ≤ s'.2.2.2.2.1 := by
  unfold ab_k at hs
  repeat' split at hs
  all_goals first | (cases hs; exact ⟨Nat.le_refl _, Nat.le_refl _⟩) | (cases hs; exact ⟨Nat.le_succ _, Nat.le_add_right _ _⟩) | cases hs
theorem ab_m_ild {i n pc : Nat} {lv : ab_L} {st : List Value} {h : ab_H} {s' : ab_S} (hs : ab_ild i n pc lv st h = some s') : h.1 ≤ s'.2.2.2.1 ∧ h.2.1 ≤ s'.2.2.2.2.1 := by
  unfold ab_ild at hs
  repeat' split at hs
  all_goals first | (cases hs; exact ⟨Nat.le_refl _, Nat.le_refl _⟩) | (cases hs; exact ⟨Nat.le_succ _, Nat.le_add_right _ _⟩) | cases hs
theorem ab_m_lld {i n pc : Nat} {lv : ab_L} {st : List Value} {h : ab_H} {s' : ab_S} (hs : ab_lld i n pc lv st h = some s') : h.1 ≤ s'.2.2.2.1 ∧ h.2.1 ≤ s'.2.2.2.2.1 := by
  unfold ab_lld at hs
  repeat' split at hs
  all_goals first | (cases hs; exact ⟨Nat.le_refl _, Nat.le_refl _⟩) | (cases hs; exact ⟨Nat.le_succ _, Nat.le_add_right _ _⟩) | cases hs
theorem ab_m_ald {i n pc : Nat} {lv : ab_L} {st : List Value} {h : ab_H} {s' : ab_S} (hs : ab_ald i n pc lv st h = some s') : h.1 ≤ s'.2.2.2.1 ∧ h.2.1 ≤ s'.2.2.2.2.1 := by
  unfold ab_ald at hs
  repeat' split at hs
  all_goals first | (cases hs; exact ⟨Nat.le_refl _, Nat.le_refl _⟩) | (cases hs; exact ⟨Nat.le_succ _, Nat.le_add_right _ _⟩) | cases hs
theorem ab_m_ist {nL i n pc : Nat} {lv : ab_L} {st : List Value} {h : ab_H} {s' : ab_S} (hs : ab_ist nL i n pc lv st h = some s') : h.1 ≤ s'.2.2.2.1 ∧ h.2.1 ≤ s'.2.2.2.2.1 := by
  unfold ab_ist at hs
  repeat' split at hs
  all_goals first | (cases hs; exact ⟨Nat.le_refl _, Nat.le_refl _⟩) | (cases hs; exact ⟨Nat.le_succ _, Nat.le_add_right _ _⟩) | cases hs
theorem ab_m_lst {nL i n pc : Nat} {lv : ab_L} {st : List Value} {h : ab_H} {s' : ab_S} (hs : ab_lst nL i n pc lv st h = some s') : h.1 ≤ s'.2.2.2.1 ∧ h.2.1 ≤ s'.2.2.2.2.1 := by
  unfold ab_lst at hs
  repeat' split at hs
  all_goals first | (cases hs; exact ⟨Nat.le_refl _, Nat.le_refl _⟩) | (cases hs; exact ⟨Nat.le_succ _, Nat.le_add_right _ _⟩) | cases hs
theorem ab_m_ast {nL i n pc : Nat} {lv : ab_L} {st : List Value} {h : ab_H} {s' : ab_S} (hs : ab_ast nL i n pc lv st h = some s') : h.1 ≤ s'.2.2.2.1 ∧ h.2.1 ≤ s'.2.2.2.2.1 := by
  unfold ab_ast at hs
  repeat' split at hs
  all_goals first | (cases hs; exact ⟨Nat.le_refl _, Nat.le_refl _⟩) | (cases hs; exact ⟨Nat.le_succ _, Nat.le_add_right _ _⟩) | cases hs
theorem ab_m_inc {nL i : Nat} {n : Int} {pc : Nat} {lv : ab_L} {st : List Value} {h : ab_H} {s' : ab_S} (hs : ab_inc nL i n pc lv st h = some s') : h.1 ≤ s'.2.2.2.1 ∧ h.2.1 ≤ s'.2.2.2.2.1 := by
  unfold ab_inc at hs
  repeat' split at hs
  all_goals first | (cases hs; exact ⟨Nat.le_refl _, Nat.le_refl _⟩) | (cases hs; exact ⟨Nat.le_succ _, Nat.le_add_right _ _⟩) | cases hs
theorem ab_m_b1 {f : Int32 → Int32} {pc : Nat} {lv : ab_L} {st : List Value} {h : ab_H} {s' : ab_S} (hs : ab_b1 f pc lv st h = some s') : h.1 ≤ s'.2.2.2.1 ∧ h.2.1 ≤ s'.2.2.2.2.1 := by
  unfold ab_b1 at hs
  repeat' split at hs
  all_goals first | (cases hs; exact ⟨Nat.le_refl _, Nat.le_refl _⟩) | (cases hs; exact ⟨Nat.le_succ _, Nat.le_add_right _ _⟩) | cases hs
theorem ab_m_b2 {f : Int32 → Int32 → Int32} {pc : Nat} {lv : ab_L} {st : List Value} {h : ab_H} {s' : ab_S} (hs : ab_b2 f pc lv st h = some s') : h.1 ≤ s'.2.2.2.1 ∧ h.2.1 ≤ s'.2.2.2.2.1 := by
  unfold ab_b2 at hs
  repeat' split at hs
  all_goals first | (cases hs; exact ⟨Nat.le_refl _, Nat.le_refl _⟩) | (cases hs; exact ⟨Nat.le_succ _, Nat.le_add_right _ _⟩) | cases hs
theorem ab_m_dv {f : Int32 → Int32 → Int32} {pc : Nat} {lv : ab_L} {st : List Value} {h : ab_H} {s' : ab_S} (hs : ab_dv f pc lv st h = some s') : h.1 ≤ s'.2.2.2.1 ∧ h.2.1 ≤ s'.2.2.2.2.1 := by
  unfold ab_dv at hs
  repeat' split at hs
  all_goals first | (cases hs; exact ⟨Nat.le_refl _, Nat.le_refl _⟩) | (cases hs; exact ⟨Nat.le_succ _, Nat.le_add_right _ _⟩) | cases hs
theorem ab_m_l2 {f : Int64 → Int64 → Int64} {pc : Nat} {lv : ab_L} {st : List Value} {h : ab_H} {s' : ab_S} (hs : ab_l2 f pc lv st h = some s') : h.1 ≤ s'.2.2.2.1 ∧ h.2.1 ≤ s'.2.2.2.2.1 := by
  unfold ab_l2 at hs
  repeat' split at hs
  all_goals first | (cases hs; exact ⟨Nat.le_refl _, Nat.le_refl _⟩) | (cases hs; exact ⟨Nat.le_succ _, Nat.le_add_right _ _⟩) | cases hs
theorem ab_m_lc {pc : Nat} {lv : ab_L} {st : List Value} {h : ab_H} {s' : ab_S} (hs : ab_lc pc lv st h = some s') : h.1 ≤ s'.2.2.2.1 ∧ h.2.1 ≤ s'.2.2.2.2.1 := by
  unfold ab_lc at hs
  repeat' split at hs
  all_goals first | (cases hs; exact ⟨Nat.le_refl _, Nat.le_refl _⟩) | (cases hs; exact ⟨Nat.le_succ _, Nat.le_add_right _ _⟩) | cases hs
theorem ab_m_ls {f : Int64 → Int32 → Int64} {pc : Nat} {lv : ab_L} {st : List Value} {h : ab_H} {s' : ab_S} (hs : ab_ls f pc lv st h = some s') : h.1 ≤ s'.2.2.2.1 ∧ h.2.1 ≤ s'.2.2.2.2.1 := by
  unfold ab_ls at hs
  repeat' split at hs
  all_goals first | (cases hs; exact ⟨Nat.le_refl _, Nat.le_refl _⟩) | (cases hs; exact ⟨Nat.le_succ _, Nat.le_add_right _ _⟩) | cases hs
theorem ab_m_il {pc : Nat} {lv : ab_L} {st : List Value} {h : ab_H} {s' : ab_S} (hs : ab_il pc lv st h = some s') : h.1 ≤ s'.2.2.2.1 ∧ h.2.1 ≤ s'.2.2.2.2.1 := by
  unfold ab_il at hs
  repeat' split at hs
  all_goals first | (cases hs; exact ⟨Nat.le_refl _, Nat.le_refl _⟩) | (cases hs; exact ⟨Nat.le_succ _, Nat.le_add_right _ _⟩) | cases hs
theorem ab_m_li {pc : Nat} {lv : ab_L} {st : List Value} {h : ab_H} {s' : ab_S} (hs : ab_li pc lv st h = some s') : h.1 ≤ s'.2.2.2.1 ∧ h.2.1 ≤ s'.2.2.2.2.1 := by
  unfold ab_li at hs
  repeat' split at hs
  all_goals first | (cases hs; exact ⟨Nat.le_refl _, Nat.le_refl _⟩) | (cases hs; exact ⟨Nat.le_succ _, Nat.le_add_right _ _⟩) | cases hs
theorem ab_m_dup {pc : Nat} {lv : ab_L} {st : List Value} {h : ab_H} {s' : ab_S} (hs : ab_dup pc lv st h = some s') : h.1 ≤ s'.2.2.2.1 ∧ h.2.1 ≤ s'.2.2.2.2.1 := by
  unfold ab_dup at hs
  repeat' split at hs
  all_goals first | (cases hs; exact ⟨Nat.le_refl _, Nat.le_refl _⟩) | (cases hs; exact ⟨Nat.le_succ _, Nat.le_add_right _ _⟩) | cases hs
theorem ab_m_pop {pc : Nat} {lv : ab_L} {st : List Value} {h : ab_H} {s' : ab_S} (hs : ab_pop pc lv st h = some s') : h.1 ≤ s'.2.2.2.1 ∧ h.2.1 ≤ s'.2.2.2.2.1 := by
  unfold ab_pop at hs
  repeat' split at hs
  all_goals first | (cases hs; exact ⟨Nat.le_refl _, Nat.le_refl _⟩) | (cases hs; exact ⟨Nat.le_succ _, Nat.le_add_right _ _⟩) | cases hs
theorem ab_m_dx1 {pc : Nat} {lv : ab_L} {st : List Value} {h : ab_H} {s' : ab_S} (hs : ab_dx1 pc lv st h = some s') : h.1 ≤ s'.2.2.2.1 ∧ h.2.1 ≤ s'.2.2.2.2.1 := by
  unfold ab_dx1 at hs
  repeat' split at hs
  all_goals first | (cases hs; exact ⟨Nat.le_refl _, Nat.le_refl _⟩) | (cases hs; exact ⟨Nat.le_succ _, Nat.le_add_right _ _⟩) | cases hs
theorem ab_m_d2 {pc : Nat} {lv : ab_L} {st : List Value} {h : ab_H} {s' : ab_S} (hs : ab_d2 pc lv st h = some s') : h.1 ≤ s'.2.2.2.1 ∧ h.2.1 ≤ s'.2.2.2.2.1 := by
  unfold ab_d2 at hs
  repeat' split at hs
  all_goals first | (cases hs; exact ⟨Nat.le_refl _, Nat.le_refl _⟩) | (cases hs; exact ⟨Nat.le_succ _, Nat.le_add_right _ _⟩) | cases hs
theorem ab_m_if {c : ClassFile.Cond} {off : Int} {pc : Nat} {lv : ab_L} {st : List Value} {h : ab_H} {s' : ab_S} (hs : ab_if c off pc lv st h = some s') : h.1 ≤ s'.2.2.2.1 ∧ h.2.1 ≤ s'.2.2.2.2.1 := by
  unfold ab_if at hs
  repeat' split at hs
  all_goals first | exact ab_m_jp hs | (cases hs; exact ⟨Nat.le_refl _, Nat.le_refl _⟩) | cases hs
theorem ab_m_ic {c : ClassFile.Cond} {off : Int} {pc : Nat} {lv : ab_L} {st : List Value} {h : ab_H} {s' : ab_S} (hs : ab_ic c off pc lv st h = some s') : h.1 ≤ s'.2.2.2.1 ∧ h.2.1 ≤ s'.2.2.2.2.1 := by
  unfold ab_ic at hs
  repeat' split at hs
  all_goals first | exact ab_m_jp hs | (cases hs; exact ⟨Nat.le_refl _, Nat.le_refl _⟩) | cases hs
theorem ab_m_tsw {d lo hi : Int} {offs : Array Int} {pc : Nat} {lv : ab_L} {st : List Value} {h : ab_H} {s' : ab_S} (hs : ab_tsw d lo hi offs pc lv st h = some s') : h.1 ≤ s'.2.2.2.1 ∧ h.2.1 ≤ s'.2.2.2.2.1 := by
  unfold ab_tsw at hs
  repeat' split at hs
  all_goals first | exact ab_m_jp hs | (cases hs; exact ⟨Nat.le_refl _, Nat.le_refl _⟩) | cases hs
theorem ab_m_lsw {d : Int} {ps : Array (Int × Int)} {pc : Nat} {lv : ab_L} {st : List Value} {h : ab_H} {s' : ab_S} (hs : ab_lsw d ps pc lv st h = some s') : h.1 ≤ s'.2.2.2.1 ∧ h.2.1 ≤ s'.2.2.2.2.1 := by
  unfold ab_lsw at hs
  repeat' split at hs
  all_goals first | exact ab_m_jp hs | (cases hs; exact ⟨Nat.le_refl _, Nat.le_refl _⟩) | cases hs
theorem ab_m_get {ci k pc : Nat} {lv : ab_L} {st : List Value} {h : ab_H} {s' : ab_S} (hs : ab_get ci k pc lv st h = some s') : h.1 ≤ s'.2.2.2.1 ∧ h.2.1 ≤ s'.2.2.2.2.1 := by
  unfold ab_get at hs
  repeat' split at hs
  all_goals first | (cases hs; exact ⟨Nat.le_refl _, Nat.le_refl _⟩) | (cases hs; exact ⟨Nat.le_succ _, Nat.le_add_right _ _⟩) | cases hs
theorem ab_m_put {ci k pc : Nat} {lv : ab_L} {st : List Value} {h : ab_H} {s' : ab_S} (hs : ab_put ci k pc lv st h = some s') : h.1 ≤ s'.2.2.2.1 ∧ h.2.1 ≤ s'.2.2.2.2.1 := by
  unfold ab_put at hs
  repeat' split at hs
  all_goals first | (cases hs; exact ⟨Nat.le_refl _, Nat.le_refl _⟩) | (cases hs; exact ⟨Nat.le_succ _, Nat.le_add_right _ _⟩) | cases hs
theorem ab_m_ial {pc : Nat} {lv : ab_L} {st : List Value} {h : ab_H} {s' : ab_S} (hs : ab_ial pc lv st h = some s') : h.1 ≤ s'.2.2.2.1 ∧ h.2.1 ≤ s'.2.2.2.2.1 := by
  unfold ab_ial at hs
  repeat' split at hs
  all_goals first | (cases hs; exact ⟨Nat.le_refl _, Nat.le_refl _⟩) | (cases hs; exact ⟨Nat.le_succ _, Nat.le_add_right _ _⟩) | cases hs
theorem ab_m_bal {pc : Nat} {lv : ab_L} {st : List Value} {h : ab_H} {s' : ab_S} (hs : ab_bal pc lv st h = some s') : h.1 ≤ s'.2.2.2.1 ∧ h.2.1 ≤ s'.2.2.2.2.1 := by
  unfold ab_bal at hs
  repeat' split at hs
  all_goals first | (cases hs; exact ⟨Nat.le_refl _, Nat.le_refl _⟩) | (cases hs; exact ⟨Nat.le_succ _, Nat.le_add_right _ _⟩) | cases hs
theorem ab_m_lal {pc : Nat} {lv : ab_L} {st : List Value} {h : ab_H} {s' : ab_S} (hs : ab_lal pc lv st h = some s') : h.1 ≤ s'.2.2.2.1 ∧ h.2.1 ≤ s'.2.2.2.2.1 := by
  unfold ab_lal at hs
  repeat' split at hs
  all_goals first | (cases hs; exact ⟨Nat.le_refl _, Nat.le_refl _⟩) | (cases hs; exact ⟨Nat.le_succ _, Nat.le_add_right _ _⟩) | cases hs
theorem ab_m_aal {pc : Nat} {lv : ab_L} {st : List Value} {h : ab_H} {s' : ab_S} (hs : ab_aal pc lv st h = some s') : h.1 ≤ s'.2.2.2.1 ∧ h.2.1 ≤ s'.2.2.2.2.1 := by
  unfold ab_aal at hs
  repeat' split at hs
  all_goals first | (cases hs; exact ⟨Nat.le_refl _, Nat.le_refl _⟩) | (cases hs; exact ⟨Nat.le_succ _, Nat.le_add_right _ _⟩) | cases hs
theorem ab_m_len {pc : Nat} {lv : ab_L} {st : List Value} {h : ab_H} {s' : ab_S} (hs : ab_len pc lv st h = some s') : h.1 ≤ s'.2.2.2.1 ∧ h.2.1 ≤ s'.2.2.2.2.1 := by
  unfold ab_len at hs
  repeat' split at hs
  all_goals first | (cases hs; exact ⟨Nat.le_refl _, Nat.le_refl _⟩) | (cases hs; exact ⟨Nat.le_succ _, Nat.le_add_right _ _⟩) | cases hs
theorem ab_m_ias {pc : Nat} {lv : ab_L} {st : List Value} {h : ab_H} {s' : ab_S} (hs : ab_ias pc lv st h = some s') : h.1 ≤ s'.2.2.2.1 ∧ h.2.1 ≤ s'.2.2.2.2.1 := by
  unfold ab_ias at hs
  repeat' split at hs
  all_goals first | (cases hs; exact ⟨Nat.le_refl _, Nat.le_refl _⟩) | (cases hs; exact ⟨Nat.le_succ _, Nat.le_add_right _ _⟩) | cases hs
theorem ab_m_bas {pc : Nat} {lv : ab_L} {st : List Value} {h : ab_H} {s' : ab_S} (hs : ab_bas pc lv st h = some s') : h.1 ≤ s'.2.2.2.1 ∧ h.2.1 ≤ s'.2.2.2.2.1 := by
  unfold ab_bas at hs
  repeat' split at hs
  all_goals first | (cases hs; exact ⟨Nat.le_refl _, Nat.le_refl _⟩) | (cases hs; exact ⟨Nat.le_succ _, Nat.le_add_right _ _⟩) | cases hs
theorem ab_m_las {pc : Nat} {lv : ab_L} {st : List Value} {h : ab_H} {s' : ab_S} (hs : ab_las pc lv st h = some s') : h.1 ≤ s'.2.2.2.1 ∧ h.2.1 ≤ s'.2.2.2.2.1 := by
  unfold ab_las at hs
  repeat' split at hs
  all_goals first | (cases hs; exact ⟨Nat.le_refl _, Nat.le_refl _⟩) | (cases hs; exact ⟨Nat.le_succ _, Nat.le_add_right _ _⟩) | cases hs
theorem ab_m_aas {pc : Nat} {lv : ab_L} {st : List Value} {h : ab_H} {s' : ab_S} (hs : ab_aas pc lv st h = some s') : h.1 ≤ s'.2.2.2.1 ∧ h.2.1 ≤ s'.2.2.2.2.1 := by
  unfold ab_aas at hs
  repeat' split at hs
  all_goals first | (cases hs; exact ⟨Nat.le_refl _, Nat.le_refl _⟩) | (cases hs; exact ⟨Nat.le_succ _, Nat.le_add_right _ _⟩) | cases hs
theorem ab_m_new {ci pc : Nat} {lv : ab_L} {st : List Value} {h : ab_H} {s' : ab_S} (hs : ab_new ci pc lv st h = some s') : h.1 ≤ s'.2.2.2.1 ∧ h.2.1 ≤ s'.2.2.2.2.1 := by
  unfold ab_new at hs
  repeat' split at hs
  all_goals first | (cases hs; exact ⟨Nat.le_refl _, Nat.le_refl _⟩) | (cases hs; exact ⟨Nat.le_succ _, Nat.le_add_right _ _⟩) | cases hs
theorem ab_m_nwa {t : ArrayType} {pc : Nat} {lv : ab_L} {st : List Value} {h : ab_H} {s' : ab_S} (hs : ab_nwa t pc lv st h = some s') : h.1 ≤ s'.2.2.2.1 ∧ h.2.1 ≤ s'.2.2.2.2.1 := by
  unfold ab_nwa at hs
  repeat' split at hs
  all_goals first | (cases hs; exact ⟨Nat.le_refl _, Nat.le_refl _⟩) | (cases hs; exact ⟨Nat.le_succ _, Nat.le_add_right _ _⟩) | cases hs
theorem ab_m_ana {pc : Nat} {lv : ab_L} {st : List Value} {h : ab_H} {s' : ab_S} (hs : ab_ana pc lv st h = some s') : h.1 ≤ s'.2.2.2.1 ∧ h.2.1 ≤ s'.2.2.2.2.1 := by
  unfold ab_ana at hs
  repeat' split at hs
  all_goals first | (cases hs; exact ⟨Nat.le_refl _, Nat.le_refl _⟩) | (cases hs; exact ⟨Nat.le_succ _, Nat.le_add_right _ _⟩) | cases hs
theorem ab_m_gs {k pc : Nat} {lv : ab_L} {st : List Value} {h : ab_H} {s' : ab_S} (hs : ab_gs k pc lv st h = some s') : h.1 ≤ s'.2.2.2.1 ∧ h.2.1 ≤ s'.2.2.2.2.1 := by
  unfold ab_gs at hs
  repeat' split at hs
  all_goals first | (cases hs; exact ⟨Nat.le_refl _, Nat.le_refl _⟩) | (cases hs; exact ⟨Nat.le_succ _, Nat.le_add_right _ _⟩) | cases hs
theorem ab_m_lds {k pc : Nat} {lv : ab_L} {st : List Value} {h : ab_H} {s' : ab_S} (hs : ab_lds k pc lv st h = some s') : h.1 ≤ s'.2.2.2.1 ∧ h.2.1 ≤ s'.2.2.2.2.1 := by
  unfold ab_lds at hs
  repeat' split at hs
  all_goals first | (cases hs; exact ⟨Nat.le_refl _, Nat.le_refl _⟩) | (cases hs; exact ⟨Nat.le_succ _, Nat.le_add_right _ _⟩) | cases hs
theorem ab_m_gx {f pc : Nat} {lv : ab_L} {st : List Value} {h : ab_H} {s' : ab_S} (hs : ab_gx f pc lv st h = some s') : h.1 ≤ s'.2.2.2.1 ∧ h.2.1 ≤ s'.2.2.2.2.1 := by
  unfold ab_gx at hs
  repeat' split at hs
  all_goals first | (cases hs; exact ⟨Nat.le_refl _, Nat.le_refl _⟩) | (cases hs; exact ⟨Nat.le_succ _, Nat.le_add_right _ _⟩) | cases hs
theorem ab_m_cpy {pc : Nat} {lv : ab_L} {st : List Value} {h : ab_H} {s' : ab_S} (hs : ab_cpy pc lv st h = some s') : h.1 ≤ s'.2.2.2.1 ∧ h.2.1 ≤ s'.2.2.2.2.1 := by
  unfold ab_cpy at hs
  repeat' split at hs
  all_goals first | (cases hs; exact ⟨Nat.le_refl _, Nat.le_refl _⟩) | (cases hs; exact ⟨Nat.le_succ _, Nat.le_add_right _ _⟩) | cases hs
theorem ab_m_lal2 {pc : Nat} {lv : ab_L} {st : List Value} {h : ab_H} {s' : ab_S} (hs : ab_lal2 pc lv st h = some s') : h.1 ≤ s'.2.2.2.1 ∧ h.2.1 ≤ s'.2.2.2.2.1 := by
  unfold ab_lal2 at hs
  split at hs
  · split at hs
    · cases hs; exact ⟨Nat.le_refl _, Nat.le_refl _⟩
    · cases hs
  · exact ab_m_lal hs
theorem ab_m_bal2 {pc : Nat} {lv : ab_L} {st : List Value} {h : ab_H} {s' : ab_S} (hs : ab_bal2 pc lv st h = some s') : h.1 ≤ s'.2.2.2.1 ∧ h.2.1 ≤ s'.2.2.2.2.1 := by
  unfold ab_bal2 at hs
  split at hs
  · split at hs
    · cases hs; exact ⟨Nat.le_refl _, Nat.le_refl _⟩
    · cases hs
  · exact ab_m_bal hs
theorem ab_m_len2 {pc : Nat} {lv : ab_L} {st : List Value} {h : ab_H} {s' : ab_S} (hs : ab_len2 pc lv st h = some s') : h.1 ≤ s'.2.2.2.1 ∧ h.2.1 ≤ s'.2.2.2.2.1 := by
  unfold ab_len2 at hs
  split at hs
  · split at hs
    · cases hs; exact ⟨Nat.le_refl _, Nat.le_refl _⟩
    · cases hs
  · exact ab_m_len hs
theorem ab_m_ldc {k pc : Nat} {v : Value} {c : Prop} {_ : Decidable c} {lv : ab_L} {st : List Value} {h : ab_H} {s' : ab_S} (hs : (if c then ab_lds k pc lv st h else ab_k 2 pc v lv st h) = some s') : h.1 ≤ s'.2.2.2.1 ∧ h.2.1 ≤ s'.2.2.2.2.1 := by
  split at hs
  · exact ab_m_lds hs
  · exact ab_m_k hs
theorem ab_m_gf {f ci k pc : Nat} {c : Prop} {_ : Decidable c} {lv : ab_L} {st : List Value} {h : ab_H} {s' : ab_S} (hs : (if c then ab_gx f pc lv st h else ab_get ci k pc lv st h) = some s') : h.1 ≤ s'.2.2.2.1 ∧ h.2.1 ≤ s'.2.2.2.2.1 := by
  split at hs
  · exact ab_m_gx hs
  · exact ab_m_get hs
theorem ab_m_is {pc : Nat} {c : Prop} {_ : Decidable c} {lv : ab_L} {st : List Value} {h : ab_H} {s' : ab_S} (hs : (if c then ab_cpy pc lv st h else none) = some s') : h.1 ≤ s'.2.2.2.1 ∧ h.2.1 ≤ s'.2.2.2.2.1 := by
  split at hs
  · exact ab_m_cpy hs
  · cases hs
theorem ab_sp_mono {nL : Nat} {it : ab_I} {pc : Nat} {lv : ab_L} {st : List Value} {h : ab_H} {s' : ab_S} (hs : ab_sp nL it pc lv st h = some s') : h.1 ≤ s'.2.2.2.1 ∧ h.2.1 ≤ s'.2.2.2.2.1 := by
  obtain ⟨i, len, r0, r1, r2, cst, ix⟩ := it
  cases i with
  | iconst n => exact ab_m_k hs
  | bipush n => exact ab_m_k hs
  | sipush n => exact ab_m_k hs
  | lconst n => exact ab_m_k hs
  | ldc i => exact ab_m_ldc hs
  | ldc_w i => exact ab_m_k hs
  | ldc2_w i => exact ab_m_k hs
  | iload_n k => exact ab_m_ild hs
  | iload i => exact ab_m_ild hs
  | lload_n k => exact ab_m_lld hs
  | lload i => exact ab_m_lld hs
  | aload_n k => exact ab_m_ald hs
  | aload i => exact ab_m_ald hs
  | istore_n k => exact ab_m_ist hs
  | istore i => exact ab_m_ist hs
  | lstore_n k => exact ab_m_lst hs
  | lstore i => exact ab_m_lst hs
  | astore_n k => exact ab_m_ast hs
  | astore i => exact ab_m_ast hs
  | iinc i n => exact ab_m_inc hs
  | iadd => exact ab_m_b2 hs
  | isub => exact ab_m_b2 hs
  | imul => exact ab_m_b2 hs
  | iand => exact ab_m_b2 hs
  | ior => exact ab_m_b2 hs
  | ixor => exact ab_m_b2 hs
  | ishl => exact ab_m_b2 hs
  | ishr => exact ab_m_b2 hs
  | iushr => exact ab_m_b2 hs
  | idiv => exact ab_m_dv hs
  | irem => exact ab_m_dv hs
  | ineg => exact ab_m_b1 hs
  | i2b => exact ab_m_b1 hs
  | i2s => exact ab_m_b1 hs
  | i2c => exact ab_m_b1 hs
  | i2l => exact ab_m_il hs
  | l2i => exact ab_m_li hs
  | ladd => exact ab_m_l2 hs
  | lsub => exact ab_m_l2 hs
  | lmul => exact ab_m_l2 hs
  | land => exact ab_m_l2 hs
  | lor => exact ab_m_l2 hs
  | lxor => exact ab_m_l2 hs
  | lcmp => exact ab_m_lc hs
  | lshl => exact ab_m_ls hs
  | lshr => exact ab_m_ls hs
  | lushr => exact ab_m_ls hs
  | dup => exact ab_m_dup hs
  | pop => exact ab_m_pop hs
  | dup_x1 => exact ab_m_dx1 hs
  | dup2 => exact ab_m_d2 hs
  | ifCond cd off => exact ab_m_if hs
  | if_icmp cd off => exact ab_m_ic hs
  | goto off => exact ab_m_jp hs
  | tableswitch d lo hi offs => exact ab_m_tsw hs
  | lookupswitch d ps => exact ab_m_lsw hs
  | getfield i => exact ab_m_gf hs
  | getstatic i => exact ab_m_gs hs
  | invokestatic i => exact ab_m_is hs
  | putfield i => exact ab_m_put hs
  | iaload => exact ab_m_ial hs
  | baload => exact ab_m_bal2 hs
  | laload => exact ab_m_lal2 hs
  | aaload => exact ab_m_aal hs
  | arraylength => exact ab_m_len2 hs
  | iastore => exact ab_m_ias hs
  | bastore => exact ab_m_bas hs
  | lastore => exact ab_m_las hs
  | aastore => exact ab_m_aas hs
  | new i => exact ab_m_new hs
  | newarray t => exact ab_m_nwa hs
  | anewarray i => exact ab_m_ana hs
  | _ => exact absurd (show (none : Option ab_S) = some s' from hs) (fun q => by cases q)
theorem ab_cpyw : Cond.native arraycopyName ∈ ab_tb ∧ Cond.static arraycopyName ∈ ab_tb ∧ Cond.initialized "java/lang/System" ∈ ab_tb := ⟨ab_tb_of (i := 1011) (by decide +kernel) rfl, ab_tb_of (i := 1010) (by decide +kernel) rfl, ab_tb_of (i := 118) (by decide +kernel) rfl⟩
section ABD
variable {p : Program} {l : Launch} {e : Env} {R : Room} {s : State} {m : MethodId} {args : Array Value} {below : List Frame} {meth : Method} {c : Code} {H : Heap} {locs : List Loc} {cells slots : Nat} {Q : State → Prop}
variable {M : ab_M} {b : ab_V} {z : Nat} {D : va_G} {dA : Nat → ClassId} {L : Nat} {xs : Nat → Int32} {pc pc' : Nat} {ls : Array Slot} {lv lv' : ab_L} {st st' : List Value} {h h' : ab_H} {c0 s0 : Nat}
theorem ab_sp_ok {G : Nat → Option ab_M} (C : ab_Cx p s m args meth c M b z D dA L xs) {it : ab_I} (ok : ab_so G M pc it) (hfl : ab_kd it = 4 → 1 ≤ R.frames ∧ 60 ≤ R.locals) (hs : ab_sp M.2.2.1 it pc lv st h = some (pc', lv', st', h')) (hR : ab_R b z D dA L xs h H) (hS : va_S (ab_A z) s.heap H locs) (hl : lv_has ls M.2.2.1 (lv.map (ab_q b z))) (hc : h.1 = c0 + cells) (hq : h.2.1 = s0 + slots) (hc2 : h'.1 ≤ c0 + R.cells) (hq2 : h'.2.1 ≤ s0 + R.slots) (kk : ab_KK p l e R s m args below meth c Q M.2.2.1 b z D dA L xs c0 s0 pc' lv' st' h') : W p l e R s m args below meth c H locs cells slots Q (F0 m pc ls (st.map (ab_v b z))) := by
  obtain ⟨i, len, r0, r1, r2, cst, ix⟩ := it
  obtain ⟨hd, hlen, hw⟩ := ok
  cases i with
  | iconst n =>
    have hlen : len = 1 := hlen
    subst hlen
    exact ab_o_iconst C hd hs hR hS hl hc hq kk
  | bipush n =>
    have hlen : len = 2 := hlen
    subst hlen
    exact ab_o_bipush C hd hs hR hS hl hc hq kk
  | sipush n =>
    have hlen : len = 3 := hlen
    subst hlen
    exact ab_o_sipush C hd hs hR hS hl hc hq kk
  | lconst n =>
    have hlen : len = 1 := hlen
    subst hlen
    exact ab_o_lconst C hd hs hR hS hl hc hq kk
  | ldc i =>
    have hlen : len = 2 := hlen
    subst hlen
    have hs : (if r0 = 7 then ab_lds r1 pc lv st h else ab_k 2 pc (.int (Int32.ofInt cst)) lv st h) = some (pc', lv', st', h') := hs
    rcases hw with ⟨h0, hw⟩ | ⟨h0, hw⟩
    · rw [if_pos h0] at hs
      exact ab_o_lds C hd hw hs hR hS hl hc hq kk
    · rw [if_neg h0] at hs
      exact ab_o_ldc C hd hw hs hR hS hl hc hq kk
  | ldc_w i =>
    have hlen : len = 3 := hlen
    subst hlen
    exact ab_o_ldc_w C hd hw hs hR hS hl hc hq kk
  | ldc2_w i =>
    have hlen : len = 3 := hlen
    subst hlen
    exact ab_o_ldc2_w C hd hw hs hR hS hl hc hq kk
  | iload_n k =>
    have hlen : len = 1 := hlen
    subst hlen
    exact ab_o_iload_n C hd hs hR hS hl hc hq kk
  | iload i =>
    have hlen : len = 2 := hlen
    subst hlen
    exact ab_o_iload C hd hs hR hS hl hc hq kk
  | lload_n k =>
    have hlen : len = 1 := hlen
    subst hlen
    exact ab_o_lload_n C hd hs hR hS hl hc hq kk
  | lload i =>
    have hlen : len = 2 := hlen
    subst hlen
    exact ab_o_lload C hd hs hR hS hl hc hq kk
  | aload_n k =>
    have hlen : len = 1 := hlen
    subst hlen
    exact ab_o_aload_n C hd hs hR hS hl hc hq kk
  | aload i =>
    have hlen : len = 2 := hlen
    subst hlen
    exact ab_o_aload C hd hs hR hS hl hc hq kk
  | istore_n k =>
    have hlen : len = 1 := hlen
    subst hlen
    exact ab_o_istore_n C hd hs hR hS hl hc hq kk
  | istore i =>
    have hlen : len = 2 := hlen
    subst hlen
    exact ab_o_istore C hd hs hR hS hl hc hq kk
  | lstore_n k =>
    have hlen : len = 1 := hlen
    subst hlen
    exact ab_o_lstore_n C hd hs hR hS hl hc hq kk
  | lstore i =>
    have hlen : len = 2 := hlen
    subst hlen
    exact ab_o_lstore C hd hs hR hS hl hc hq kk
  | astore_n k =>
    have hlen : len = 1 := hlen
    subst hlen
    exact ab_o_astore_n C hd hs hR hS hl hc hq kk
  | astore i =>
    have hlen : len = 2 := hlen
    subst hlen
    exact ab_o_astore C hd hs hR hS hl hc hq kk
  | iinc i n =>
    have hlen : len = 3 := hlen
    subst hlen
    exact ab_o_iinc C hd hs hR hS hl hc hq kk
  | iadd =>
    have hlen : len = 1 := hlen
    subst hlen
    exact ab_o_iadd C hd hs hR hS hl hc hq kk
  | isub =>
    have hlen : len = 1 := hlen
    subst hlen
    exact ab_o_isub C hd hs hR hS hl hc hq kk
  | imul =>
    have hlen : len = 1 := hlen
    subst hlen
    exact ab_o_imul C hd hs hR hS hl hc hq kk
  | iand =>
    have hlen : len = 1 := hlen
    subst hlen
    exact ab_o_iand C hd hs hR hS hl hc hq kk
  | ior =>
    have hlen : len = 1 := hlen
    subst hlen
    exact ab_o_ior C hd hs hR hS hl hc hq kk
  | ixor =>
    have hlen : len = 1 := hlen
    subst hlen
    exact ab_o_ixor C hd hs hR hS hl hc hq kk
  | ishl =>
    have hlen : len = 1 := hlen
    subst hlen
    exact ab_o_ishl C hd hs hR hS hl hc hq kk
  | ishr =>
    have hlen : len = 1 := hlen
    subst hlen
    exact ab_o_ishr C hd hs hR hS hl hc hq kk
  | iushr =>
    have hlen : len = 1 := hlen
    subst hlen
    exact ab_o_iushr C hd hs hR hS hl hc hq kk
  | idiv =>
    have hlen : len = 1 := hlen
    subst hlen
    exact ab_o_idiv C hd hs hR hS hl hc hq kk
  | irem =>
    have hlen : len = 1 := hlen
    subst hlen
    exact ab_o_irem C hd hs hR hS hl hc hq kk
  | ineg =>
    have hlen : len = 1 := hlen
    subst hlen
    exact ab_o_ineg C hd hs hR hS hl hc hq kk
  | i2b =>
    have hlen : len = 1 := hlen
    subst hlen
    exact ab_o_i2b C hd hs hR hS hl hc hq kk
  | i2s =>
    have hlen : len = 1 := hlen
    subst hlen
    exact ab_o_i2s C hd hs hR hS hl hc hq kk
  | i2c =>
    have hlen : len = 1 := hlen
    subst hlen
    exact ab_o_i2c C hd hs hR hS hl hc hq kk
  | i2l =>
    have hlen : len = 1 := hlen
    subst hlen
    exact ab_o_i2l C hd hs hR hS hl hc hq kk
  | l2i =>
    have hlen : len = 1 := hlen
    subst hlen
    exact ab_o_l2i C hd hs hR hS hl hc hq kk
  | ladd =>
    have hlen : len = 1 := hlen
    subst hlen
    exact ab_o_ladd C hd hs hR hS hl hc hq kk
  | lsub =>
    have hlen : len = 1 := hlen
    subst hlen
    exact ab_o_lsub C hd hs hR hS hl hc hq kk
  | lmul =>
    have hlen : len = 1 := hlen
    subst hlen
    exact ab_o_lmul C hd hs hR hS hl hc hq kk
  | land =>
    have hlen : len = 1 := hlen
    subst hlen
    exact ab_o_land C hd hs hR hS hl hc hq kk
  | lor =>
    have hlen : len = 1 := hlen
    subst hlen
    exact ab_o_lor C hd hs hR hS hl hc hq kk
  | lxor =>
    have hlen : len = 1 := hlen
    subst hlen
    exact ab_o_lxor C hd hs hR hS hl hc hq kk
  | lcmp =>
    have hlen : len = 1 := hlen
    subst hlen
    exact ab_o_lcmp C hd hs hR hS hl hc hq kk
  | lshl =>
    have hlen : len = 1 := hlen
    subst hlen
    exact ab_o_lshl C hd hs hR hS hl hc hq kk
  | lshr =>
    have hlen : len = 1 := hlen
    subst hlen
    exact ab_o_lshr C hd hs hR hS hl hc hq kk
  | lushr =>
    have hlen : len = 1 := hlen
    subst hlen
    exact ab_o_lushr C hd hs hR hS hl hc hq kk
  | dup =>
    have hlen : len = 1 := hlen
    subst hlen
    exact ab_o_dup C hd hs hR hS hl hc hq kk
  | pop =>
    have hlen : len = 1 := hlen
    subst hlen
    exact ab_o_pop C hd hs hR hS hl hc hq kk
  | dup_x1 =>
    have hlen : len = 1 := hlen
    subst hlen
    exact ab_o_dup_x1 C hd hs hR hS hl hc hq kk
  | dup2 =>
    have hlen : len = 1 := hlen
    subst hlen
    exact ab_o_dup2 C hd hs hR hS hl hc hq kk
  | ifCond cd off =>
    have hlen : len = 3 := hlen
    subst hlen
    exact ab_o_if C hd hw hs hR hS hl hc hq kk
  | if_icmp cd off =>
    have hlen : len = 3 := hlen
    subst hlen
    exact ab_o_ic C hd hw hs hR hS hl hc hq kk
  | goto off =>
    have hlen : len = 3 := hlen
    subst hlen
    exact ab_o_goto C hd hs hR hS hl hc hq kk
  | tableswitch d lo hi offs =>
    exact ab_o_tsw C hd hs hR hS hl hc hq kk
  | lookupswitch d ps =>
    exact ab_o_lsw C hd hs hR hS hl hc hq kk
  | getfield i =>
    have hlen : len = 3 := hlen
    subst hlen
    have hs : (if r0 = 20 then ab_gx r1 pc lv st h else ab_get r0 r1 pc lv st h) = some (pc', lv', st', h') := hs
    rcases hw with ⟨h0, hw⟩ | ⟨h0, Cn, T, N, h1, h2, h3⟩
    · rw [if_pos h0] at hs
      exact ab_o_gx C hd hw hs hR hS hl hc hq kk
    · rw [if_neg h0] at hs
      exact ab_o_get C hd h1 h2 h3 hs hR hS hl hc hq kk
  | getstatic i =>
    have hlen : len = 3 := hlen
    subst hlen
    exact ab_o_gs C hd hw hs hR hS hl hc hq kk
  | invokestatic i =>
    have hlen : len = 3 := hlen
    subst hlen
    have hs : (if r0 = 8 then ab_cpy pc lv st h else none) = some (pc', lv', st', h') := hs
    by_cases h0 : r0 = 8
    · subst h0
      rw [if_pos rfl] at hs
      have hlk : Cond.methodLink M.1.cls i arraycopyName ∈ ab_tb := by
        rcases hw with ⟨-, hw⟩ | ⟨hw, -⟩ | ⟨hw, -⟩
        · exact hw
        · exact absurd (show (8 : Nat) = 1 from hw) (by decide)
        · exact absurd (show (8 : Nat) = 3 from hw) (by decide)
      exact ab_o_cpy C hd hlk ab_cpyw (hfl rfl).1 (hfl rfl).2 hs hR hS hl hc hq kk
    · rw [if_neg h0] at hs
      cases hs
  | putfield i =>
    have hlen : len = 3 := hlen
    subst hlen
    obtain ⟨Cn, T, N, h1, h2, h3, h4⟩ := hw
    exact ab_o_put C hd h1 h2 h3 h4 hs hR hS hl hc hq kk
  | iaload =>
    have hlen : len = 1 := hlen
    subst hlen
    exact ab_o_ial C hd hs hR hS hl hc hq kk
  | baload =>
    have hlen : len = 1 := hlen
    subst hlen
    exact ab_o_bal2 C hd hs hR hS hl hc hq kk
  | laload =>
    have hlen : len = 1 := hlen
    subst hlen
    exact ab_o_lal2 C hd hs hR hS hl hc hq kk
  | aaload =>
    have hlen : len = 1 := hlen
    subst hlen
    exact ab_o_aal C hd hs hR hS hl hc hq kk
  | arraylength =>
    have hlen : len = 1 := hlen
    subst hlen
    exact ab_o_len2 C hd hs hR hS hl hc hq kk
  | iastore =>
    have hlen : len = 1 := hlen
    subst hlen
    exact ab_o_ias C hd hs hR hS hl hc hq kk
  | bastore =>
    have hlen : len = 1 := hlen
    subst hlen
    exact ab_o_bas C hd hs hR hS hl hc hq kk
  | lastore =>
    have hlen : len = 1 := hlen
    subst hlen
    exact ab_o_las C hd hs hR hS hl hc hq kk
  | aastore =>
    have hlen : len = 1 := hlen
    subst hlen
    exact ab_o_aas C hd hs hR hS hl hc hq kk
  | new i =>
    have hlen : len = 3 := hlen
    subst hlen
    obtain ⟨Cn, T, N, h1, h2⟩ := hw
    exact ab_o_new C hd h1 h2 hs hR hS hl hc hq hc2 hq2 kk
  | newarray t =>
    have hlen : len = 2 := hlen
    subst hlen
    exact ab_o_nwa C hd hw hs hR hS hl hc hq hc2 hq2 kk
  | anewarray i =>
    have hlen : len = 3 := hlen
    subst hlen
    exact ab_o_ana C hd hw hs hR hS hl hc hq hc2 hq2 kk
  | _ => exact absurd (show (none : Option ab_S) = some (pc', lv', st', h') from hs) (fun q => by cases q)
end ABD
