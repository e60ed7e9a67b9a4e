/-! ===== what the heap says of sheets ===== -/
section RAH
variable {z_w L_w : Nat} {xs : Nat → Int32} {h_w : ab_H}
theorem ra_40 (hh : sx_h sx_SP z_w L_w xs h_w) : ∀ j_w, j_w < 4 → (dc_vw h_w).2.2.1 40 j_w = 74 + 2 * j_w := fun j_w hj => by
  rcases (show j_w = 0 ∨ j_w = 1 ∨ j_w = 2 ∨ j_w = 3 by omega) with rfl | rfl | rfl | rfl <;> exact gd_ra (c := 40) hh rfl (by decide) rfl
theorem ra_64 (hh : sx_h sx_SP z_w L_w xs h_w) : ∀ j_w, j_w < 4 → ((dc_vw h_w).2.2.2 (75 + 2 * j_w)).2 = 64 := fun j_w hj => by
  rcases (show j_w = 0 ∨ j_w = 1 ∨ j_w = 2 ∨ j_w = 3 by omega) with rfl | rfl | rfl | rfl
  · obtain ⟨f_w, r_w, -⟩ := nw_a (a := 75) rfl (by decide) (by decide) hh
    have r_w := (ab_rd_of r_w).2
    show (dc_vt (h_w.2.2 75)).2 = 64
    rw [r_w]
    rfl
  · obtain ⟨f_w, r_w, -⟩ := nw_a (a := 77) rfl (by decide) (by decide) hh
    have r_w := (ab_rd_of r_w).2
    show (dc_vt (h_w.2.2 77)).2 = 64
    rw [r_w]
    rfl
  · obtain ⟨f_w, r_w, -⟩ := nw_a (a := 79) rfl (by decide) (by decide) hh
    have r_w := (ab_rd_of r_w).2
    show (dc_vt (h_w.2.2 79)).2 = 64
    rw [r_w]
    rfl
  · obtain ⟨f_w, r_w, -⟩ := nw_a (a := 81) rfl (by decide) (by decide) hh
    have r_w := (ab_rd_of r_w).2
    show (dc_vt (h_w.2.2 81)).2 = 64
    rw [r_w]
    rfl
end RAH
