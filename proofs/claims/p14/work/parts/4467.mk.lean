/-! ===== layQuarrels ===== -/
theorem qu_cal_ow {h : ab_H} {rest ws : List Value} (hw : (rest.map fun v => v.category).sum ≤ 8) (h82 : ab_rd h 82 = some (.inr (10, ws))) {i ix : Nat} : ab_cal ab_G (ab_c (.invokevirtual i) 0 182 0 ix) (.ref 82 :: rest) h = some (ab_M_X10_ownWires, [.ref 82], rest) := ab_cal_v (As := []) rfl (show ab_G 182 = some ab_M_X10_ownWires from rfl) rfl h82 rfl rfl (by unfold ab_cok; rw [Bool.and_eq_true]; exact ⟨rfl, decide_eq_true hw⟩) rfl
def qu_W (ws0 ws : List Value) : Prop := ws.length = ws0.length ∧ ∀ k, (k < 39 ∨ 42 < k) → ws[k]? = ws0[k]?
theorem qu_W.st {ws0 ws : List Value} (q : qu_W ws0 ws) {k : Nat} (hk : 39 ≤ k ∧ k ≤ 42) (v : Value) : qu_W ws0 (ws.set k v) := ⟨(List.length_set ..).trans q.1, fun i h1 => (List.getElem?_set_ne (by omega)).trans (q.2 i h1)⟩
theorem qu_W.q {ws0 ws : List Value} (q : qu_W ws0 ws) {EV ST : Nat} (m : am_Q ws0 EV ST) : am_Q ws EV ST := ⟨(q.2 3 (by decide)).trans m.1, (q.2 4 (by decide)).trans m.2.1, (q.2 35 (by decide)).trans m.2.2.1, (q.2 36 (by decide)).trans m.2.2.2.1, (q.2 32 (by decide)).trans m.2.2.2.2⟩
/-- the four fields are ints -/
def qu_X (ws : List Value) (x39 : Int32) (c : Nat) (x41 x42 : Int32) : Prop := ws[39]? = some (.int x39) ∧ ws[40]? = some (.int (Int32.ofNat c)) ∧ ws[41]? = some (.int x41) ∧ ws[42]? = some (.int x42)
def qu_ok (wi nx lvs ow : Nat → Int32) (EV W s1 s2 : Nat) : Prop := lvs s1 = lvs s2 → (am_v wi nx lvs EV s1 ^^^ am_v wi nx lvs EV s2) &&& ow_v ow W = 0
def qu_I (wi nx lvs ow : Nat → Int32) (EV ST W i j c : Nat) : Prop := c = 0 → ∀ s1 s2, s1 < s2 → s2 < ST → (s1 < i ∨ (s1 = i ∧ s2 < j)) → qu_ok wi nx lvs ow EV W s1 s2
def qu_S (h0 : ab_H) (ws0 : List Value) (wi nx lvs ow : Nat → Int32) (c : Nat) (h : ab_H) : Prop := ∃ (ws : List Value) (x39 x41 x42 : Int32), am_M h ws wi nx lvs ∧ ab_rd h 84 = some (.inl (0, 6, .inl ow)) ∧ qu_W ws0 ws ∧ am_F h0 h ∧ qu_X ws x39 c x41 x42
