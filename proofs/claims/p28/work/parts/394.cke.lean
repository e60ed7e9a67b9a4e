/-! ===== the checker is sound: division's rest, products ===== -/
section CKE
variable {SP : List ck_C} {Mo : List Nat} {β : Nat → Int} {A : ck_S} {lv : ab_L} {st : List Value} {h : ab_H} {l : List (Nat × ck_S)} {pc : Nat}
theorem ck_cc_ok {f : Int32 → Int32 → Int32} {F : Nat → ck_I → ck_I → ck_S → ck_R} (hF : ck_op SP lv h f F) : ck_op SP lv h f (fun p x y A => ck_cc f p x y A (F p x y A)) := by
  intro p x y A st l β a b hx hy g hs
  dsimp only at hs
  unfold ck_cc at hs
  split at hs
  · rename_i h0
    cases hs
    obtain ⟨x1, x2, x3, x4⟩ := hx
    obtain ⟨y1, y2, y3, y4⟩ := hy
    have e0 := g.1
    rw [h0.1, e0, Int.zero_add] at x4
    rw [h0.2, e0, Int.zero_add] at y4
    rw [← x4, ← y4, Int32.ofInt_toInt, Int32.ofInt_toInt]
    exact ⟨_, β, List.mem_singleton.mpr rfl, ck_pu_ok (ck_kc_ok g.1 g.2.1) g⟩
  · exact hF p x y A st l β a b hx hy g hs
end CKE
