def ab_sw (M : ab_M) (pc : Nat) (it : ab_I) : Bool := decide (it.2.1 = ab_ln it.1 it.2.1) && (match it.1 with
  | .ldc i => (decide (it.2.2.1 = 7) && (decide (M.1.cls = RX4) && decide (i = (ab_si it.2.2.2.1).1))) || (decide (it.2.2.1 ≠ 7) && ab_wb it.2.2.2.2.2.2 (.constant M.1.cls i (Int32.ofInt it.2.2.2.2.2.1)))
  | .ldc_w i => ab_wb it.2.2.2.2.2.2 (.constant M.1.cls i (Int32.ofInt it.2.2.2.2.2.1))
  | .ldc2_w i => ab_wb it.2.2.2.2.2.2 (.constantLong M.1.cls i (Int64.ofInt it.2.2.2.2.2.1))
  | .ifCond _ off => decide (0 ≤ (pc : Int) + off)
  | .if_icmp _ off => decide (0 ≤ (pc : Int) + off)
  | .getfield i => (decide (it.2.2.1 = 20) && ((decide (it.2.2.2.1 = 0) && ab_wb it.2.2.2.2.2.2 (.fieldLink M.1.cls i "java/lang/String" "value" "[B")) || (decide (it.2.2.2.1 = 1) && ab_wb it.2.2.2.2.2.2 (.fieldLink M.1.cls i "java/lang/String" "coder" "B")))) || (decide (it.2.2.1 ≠ 20) && (match ab_cl[it.2.2.1]? with
    | some q => decide (it.2.2.2.1 < q.2.2) && ab_wb it.2.2.2.2.2.2 (.fieldLink M.1.cls i (q.2.1 it.2.2.2.1).1 (q.2.1 it.2.2.2.1).2.1 (q.2.1 it.2.2.2.1).2.2.1)
    | none => false))
  | .getstatic i => (decide (it.2.2.1 = 0) && ab_wb it.2.2.2.2.2.2 (.fieldLink M.1.cls i RX8 "HIGH" "[J")) || ((decide (it.2.2.1 = 1) && ab_wb it.2.2.2.2.2.2 (.fieldLink M.1.cls i "java/lang/String" "COMPACT_STRINGS" "Z")) || (decide (it.2.2.1 = 2) && ab_wb it.2.2.2.2.2.2 (.fieldLink M.1.cls i "jdk/internal/util/Preconditions" "SIOOBE_FORMATTER" "Ljava/util/function/BiFunction;")))
  | .putfield i => (match ab_cl[it.2.2.1]? with
    | some q => decide (it.2.2.2.1 < q.2.2) && (ab_wb it.2.2.2.2.2.2 (.fieldLink M.1.cls i (q.2.1 it.2.2.2.1).1 (q.2.1 it.2.2.2.1).2.1 (q.2.1 it.2.2.2.1).2.2.1) && (!(q.2.1 it.2.2.2.1).2.2.2 || (decide (M.1.name = "<init>") && decide ((q.2.1 it.2.2.2.1).1 = M.1.cls))))
    | none => false)
  | .new i => (match ab_cl[it.2.2.1]? with
    | some q => ab_wb it.2.2.2.2.2.2 (.classLink M.1.cls i q.1)
    | none => false)
  | .newarray t => ab_wb it.2.2.2.2.2.2 (.arrayClass (newarray.typeOf t))
  | .anewarray i => ab_wb it.2.2.2.2.2.2 (.classLink M.1.cls i RX6)
  | .invokevirtual i => (decide (it.2.2.1 = 0) || decide (it.2.2.1 = 9)) && ab_lb M it i
  | .invokestatic i => (decide (it.2.2.1 = 8) && ab_wb it.2.2.2.2.2.2 (.methodLink M.1.cls i arraycopyName)) || (decide (it.2.2.1 = 1) && ab_lb M it i) || (decide (it.2.2.1 = 3) && ab_lnb M it i)
  | .invokespecial i => (decide (it.2.2.1 = 5) && ab_wb it.2.2.2.2.2.2 (.methodLink M.1.cls i Lib.objectInit)) || ((decide (it.2.2.1 = 2) && ab_lb M it i) || (decide (it.2.2.1 = 4) && ab_lnb M it i))
  | _ => true)
def ab_sd (M : ab_M) (pc : Nat) (it : ab_I) : Bool := decide (decode M.2.1 pc = .ok (it.1, it.2.1))
def ab_pw (M : ab_M) : Bool := M.2.2.2.2.2.all (fun l => l.all (fun r => ab_sw M r.1 r.2))
def ab_pd (M : ab_M) : Bool := M.2.2.2.2.2.all (fun l => l.all (fun r => ab_sd M r.1 r.2))
theorem ab_pb_of3 {M : ab_M} (h2 : ab_pd M = true) (h3 : ab_pw M = true) : ab_pb M = true := by
  refine List.all_eq_true.mpr (fun l hl => List.all_eq_true.mpr (fun r hr => ?_))
  have a := List.all_eq_true.mp (List.all_eq_true.mp h2 l hl) r hr
  have b := List.all_eq_true.mp (List.all_eq_true.mp h3 l hl) r hr
  show (ab_sd M r.1 r.2 && ab_sw M r.1 r.2) = true
  rw [a, b]
  rfl
def ab_cb (M : ab_M) : Bool := match lw_tbl[M.2.2.2.2.1.2.2.1]? with
  | some (.code x b n r) => decide (x = M.1) && (decide (b.data.toList = M.2.1.data.toList) && (decide (n = M.2.2.1) && (decide (r = M.2.2.2.1) && goodWord (.code M.1 M.2.1 M.2.2.1 M.2.2.2.1))))
  | _ => false
theorem ab_cb_of {M : ab_M} (h : ab_cb M = true) : ab_wb M.2.2.2.2.1.2.2.1 (.code M.1 M.2.1 M.2.2.1 M.2.2.2.1) = true := by
  unfold ab_cb at h
  split at h
  · rename_i x b n r e
    simp only [Bool.and_eq_true, decide_eq_true_eq] at h
    obtain ⟨h1, h2, h3, h4, h5⟩ := h
    have hb : b = M.2.1 := ByteArray.ext (Array.toList_inj.mp h2)
    unfold ab_wb
    rw [Bool.and_eq_true]
    exact ⟨decide_eq_true (e.trans (by rw [h1, hb, h3, h4])), h5⟩
  · cases h
def ab_mr (M : ab_M) : Bool := ab_wb M.2.2.2.2.1.2.2.2.1 (.initialized M.1.cls) && (decide (M.1.cls ≠ "java/lang/invoke/MethodHandle") && (decide (M.1.cls ≠ "java/lang/invoke/VarHandle") && (decide (plainFor M.1 = true) && (decide (M.2.2.1 ≤ 41) && (match M.2.2.2.2.1.1 with
  | 0 => ab_wb M.2.2.2.2.1.2.2.2.2.1 (.instanceMethod M.1) && (ab_wb M.2.2.2.2.1.2.2.2.2.2 (.selects M.1.cls M.1 M.1) && (match ab_cl[M.2.2.2.2.1.2.1]? with
    | some q => decide (q.1 = M.1.cls)
    | none => false))
  | 1 => ab_wb M.2.2.2.2.1.2.2.2.2.1 (.static M.1)
  | 2 => decide (M.1.name = "<init>") && (ab_wb M.2.2.2.2.1.2.2.2.2.1 (.instanceMethod M.1) && decide (M.2.2.2.1 = none))
  | 3 => ab_wb M.2.2.2.2.1.2.2.2.2.1 (.instanceMethod M.1) && (ab_wb M.2.2.2.2.1.2.2.2.2.2 (.selects M.1.cls M.1 M.1) && decide (M.1.cls = "java/lang/String"))
  | _ => false)))))
theorem ab_ok_of4 {M : ab_M} (h0 : ab_cb M = true) (h1 : ab_mr M = true) (h2 : ab_pd M = true) (h3 : ab_pw M = true) : ab_ok ab_G M := by
  refine ab_ok_of ?_ (ab_pb_of3 h2 h3)
  show (ab_wb M.2.2.2.2.1.2.2.1 (.code M.1 M.2.1 M.2.2.1 M.2.2.2.1) && ab_mr M) = true
  rw [ab_cb_of h0, h1]
  rfl
theorem ab_al {f : ab_M → Bool} {l : List ab_M} (h : l.all f = true) {i : Nat} {M : ab_M} (e : l[i]? = some M) : f M = true := List.all_eq_true.mp h M (List.mem_of_getElem? e)
