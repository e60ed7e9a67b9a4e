/-! ===== the checker is sound: fields ===== -/
theorem ck_key_d {a k : Nat} (hk : k < 64) : ck_key a k / 64 = a ∧ ck_key a k % 64 = k := by
  unfold ck_key
  omega
theorem ck_c_obj {ci : Nat} {fs : List ck_F} {e : ab_E} (hc : ck_c (.inr (ci, fs)) e) : ∃ ws : List Value, e = .inr (ci, ws) ∧ fs.length = ws.length ∧ ∀ (k : Nat) (f : ck_F) (w : Value), fs[k]? = some f → ws[k]? = some w → ck_fv f w := by
  match e, hc with
  | .inr (cj, ws), hc =>
    obtain ⟨e1, e2, h3⟩ := hc
    subst e1
    exact ⟨ws, rfl, e2, h3⟩
theorem ck_fd_of {h : ab_H} {a k ci : Nat} {ws : List Value} (hk : k < 64) (hr : ab_rd h a = some (.inr (ci, ws))) : ck_fd h (ck_key a k) = ws[k]? := by
  unfold ck_fd
  rw [(ck_key_d (a := a) hk).1, (ck_key_d (a := a) hk).2, hr]
