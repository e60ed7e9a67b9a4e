/-! ===== the checker is sound: putfield ===== -/
section CKH
variable {SP : List ck_C} {Mo : List Nat} {β : Nat → Int} {A : ck_S} {lv : ab_L} {st : List Value} {h : ab_H} {l : List (Nat × ck_S)} {pc : Nat}
theorem ck_c_set {ci k : Nat} {fs : List ck_F} {ws : List Value} {f : ck_F} {w : Value} (hc : ck_c (.inr (ci, fs)) (.inr (ci, ws))) (hf : fs[k]? = some f) (hw : ck_fv f w) : ck_c (.inr (ci, fs)) (.inr (ci, ws.set k w)) := by
  obtain ⟨-, h2, h3⟩ := hc
  refine ⟨rfl, by rw [List.length_set]; exact h2, fun j f' w' hf' hw' => ?_⟩
  by_cases e : k = j
  · subst e
    rw [hf] at hf'
    cases hf'
    have hl : k < ws.length := by rw [← h2]; exact (List.getElem?_eq_some_iff.mp hf).1
    rw [List.getElem?_set_self hl] at hw'
    cases hw'
    exact hw
  · rw [List.getElem?_set_ne e] at hw'
    exact h3 j f' w' hf' hw'
theorem ck_fd_put {a k ci : Nat} {ws : List Value} {w : Value} {j : Nat} (hr : ab_rd h a = some (.inr (ci, ws))) (hk : k < 64) (hj : j ≠ ck_key a k) : ck_fd (ab_wr h a (.inr (ci, ws.set k w))) j = ck_fd h j := by
  by_cases e : j / 64 = a
  · unfold ck_fd
    rw [e, hr, ab_rd_self (ab_rd_of hr).1]
    dsimp only
    have hne : k ≠ j % 64 := fun q => hj (by unfold ck_key; omega)
    exact List.getElem?_set_ne hne
  · exact ck_fd_wr e
theorem ck_fm_put {a k ci : Nat} {ws : List Value} {w : Value} (hr : ab_rd h a = some (.inr (ci, ws))) (hk : k < 64) (hm : ck_key a k ∈ Mo) : ck_fm Mo h (ab_wr h a (.inr (ci, ws.set k w))) := by
  refine ⟨rfl, rfl, fun j hj => ck_fd_put hr hk (fun e => hj (by rw [e]; exact hm)), fun b hb => ?_⟩
  have hne : b ≠ a := fun e => hb k hk (by rw [e]; exact hm)
  exact va_up_ne _ _ hne
end CKH
