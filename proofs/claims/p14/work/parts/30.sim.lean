/-! ===== cells that a run does not touch may be anything: a cell (99, nothing) stops every run that reads or writes it ===== -/
def ab_bad : ab_E := .inr (99, [])
def ab_sim (S : Nat → Prop) (h g : ab_H) : Prop := h.1 = g.1 ∧ h.2.1 = g.2.1 ∧ (∀ a, a < h.1 → ¬ S a → h.2.2 a = g.2.2 a) ∧ ∀ a, S a → a < h.1 ∧ h.2.2 a = ab_bad
/-- the second run's end: alike, and what was stopped is as it was -/
def ab_sm2 (S : Nat → Prop) (h g0 g : ab_H) : Prop := ab_sim S h g ∧ ∀ a, S a → g.2.2 a = g0.2.2 a
theorem ab_sim.rd {S : Nat → Prop} {h g : ab_H} (q : ab_sim S h g) {a : Nat} {e : ab_E} (hr : ab_rd h a = some e) (hne : e ≠ ab_bad) : ab_rd g a = some e ∧ ¬ S a := by
  obtain ⟨ha, hx⟩ := ab_rd_of hr
  have hS : ¬ S a := fun hs => hne (hx.symm.trans (q.2.2.2 a hs).2)
  refine ⟨?_, hS⟩
  unfold ab_rd
  rw [if_pos (by rw [← q.1]; exact ha), ← q.2.2.1 a ha hS, hx]
theorem ab_sim.same {S : Nat → Prop} {h g : ab_H} (q : ab_sim S h g) : ab_sm2 S h g g := ⟨q, fun _ _ => rfl⟩
theorem ab_sim.wr {S : Nat → Prop} {h g : ab_H} (q : ab_sim S h g) {a : Nat} (hS : ¬ S a) (e : ab_E) : ab_sm2 S (ab_wr h a e) g (ab_wr g a e) := by
  obtain ⟨q1, q2, q3, q4⟩ := q
  refine ⟨⟨q1, q2, fun i hb hi => ?_, fun i hi => ⟨(q4 i hi).1, ?_⟩⟩, fun i hi => ?_⟩
  · show va_up h.2.2 a e i = va_up g.2.2 a e i
    by_cases hia : i = a
    · subst hia; rw [va_up_self, va_up_self]
    · rw [va_up_ne _ _ hia, va_up_ne _ _ hia]; exact q3 i hb hi
  · show va_up h.2.2 a e i = ab_bad
    have hne : i ≠ a := fun z => hS (by rw [← z]; exact hi)
    rw [va_up_ne _ _ hne]
    exact (q4 i hi).2
  · show va_up g.2.2 a e i = g.2.2 i
    have hne : i ≠ a := fun z => hS (by rw [← z]; exact hi)
    rw [va_up_ne _ _ hne]
theorem ab_sim.nw {S : Nat → Prop} {h g : ab_H} (q : ab_sim S h g) (n : Nat) (e : ab_E) : ab_sm2 S (ab_nw h n e) g (ab_nw g n e) := by
  obtain ⟨q1, q2, q3, q4⟩ := q
  have hS : ¬ S h.1 := fun z => Nat.lt_irrefl _ (q4 _ z).1
  refine ⟨⟨by show h.1 + 1 = g.1 + 1; rw [q1], by show h.2.1 + n = g.2.1 + n; rw [q2], fun i hb hi => ?_, fun i hi => ⟨Nat.lt_succ_of_lt (q4 i hi).1, ?_⟩⟩, fun i hi => ?_⟩
  · show va_up h.2.2 h.1 e i = va_up g.2.2 g.1 e i
    rw [← q1]
    have hb : i < h.1 + 1 := hb
    by_cases hia : i = h.1
    · subst hia; rw [va_up_self, va_up_self]
    · rw [va_up_ne _ _ hia, va_up_ne _ _ hia]; exact q3 i (by omega) hi
  · show va_up h.2.2 h.1 e i = ab_bad
    have hne : i ≠ h.1 := fun z => hS (by rw [← z]; exact hi)
    rw [va_up_ne _ _ hne]
    exact (q4 i hi).2
  · show va_up g.2.2 g.1 e i = g.2.2 i
    have hne : i ≠ h.1 := fun z => hS (by rw [← z]; exact hi)
    rw [← q1, va_up_ne _ _ hne]
theorem ab_bad_l {x : Nat × Nat × ab_C} : (Sum.inl x : ab_E) ≠ ab_bad := fun q => by cases q
theorem ab_bad_c {n k : Nat} {fs : List Value} (hk : k < fs.length) : (Sum.inr (n, fs) : ab_E) ≠ ab_bad := fun q => by
  cases q
  exact absurd hk (Nat.not_lt_zero _)
theorem ab_bad_n {n : Nat} {fs : List Value} (hn : n ≠ 99) : (Sum.inr (n, fs) : ab_E) ≠ ab_bad := fun q => by
  cases q
  exact hn rfl
theorem ab_z_jp {pc pc' : Nat} {off : Int} {lv lv' : ab_L} {st st' : List Value} {h h' : ab_H} (hs : ab_jp pc off lv st h = some (pc', lv', st', h')) : h' = h ∧ ∀ g : ab_H, ab_jp pc off lv st g = some (pc', lv', st', g) := by
  unfold ab_jp at hs ⊢
  split at hs
  · rename_i h0
    cases hs
    exact ⟨rfl, fun g => if_pos h0⟩
  · cases hs
theorem ab_z_k {n pc : Nat} {v : Value} {lv lv' : ab_L} {st st' : List Value} {h h' : ab_H} {pc' : Nat} (hs : ab_k n pc v lv st h = some (pc', lv', st', h')) : h' = h ∧ ∀ g : ab_H, ab_k n pc v lv st g = some (pc', lv', st', g) := by
  unfold ab_k at hs ⊢
  repeat' split at hs
  all_goals first | (cases hs; done) | (cases hs; exact ⟨rfl, fun g => rfl⟩) | (cases hs; exact ⟨rfl, fun g => by simp [*]⟩) | (obtain ⟨q1, q2⟩ := ab_z_jp hs; exact ⟨q1, fun g => by first | exact q2 g | (simp [*]; done)⟩) | cases hs
theorem ab_z_ild {i n pc : Nat} {lv lv' : ab_L} {st st' : List Value} {h h' : ab_H} {pc' : Nat} (hs : ab_ild i n pc lv st h = some (pc', lv', st', h')) : h' = h ∧ ∀ g : ab_H, ab_ild i n pc lv st g = some (pc', lv', st', g) := by
  unfold ab_ild at hs ⊢
  repeat' split at hs
  all_goals first | (cases hs; done) | (cases hs; exact ⟨rfl, fun g => rfl⟩) | (cases hs; exact ⟨rfl, fun g => by simp [*]⟩) | (obtain ⟨q1, q2⟩ := ab_z_jp hs; exact ⟨q1, fun g => by first | exact q2 g | (simp [*]; done)⟩) | cases hs
theorem ab_z_lld {i n pc : Nat} {lv lv' : ab_L} {st st' : List Value} {h h' : ab_H} {pc' : Nat} (hs : ab_lld i n pc lv st h = some (pc', lv', st', h')) : h' = h ∧ ∀ g : ab_H, ab_lld i n pc lv st g = some (pc', lv', st', g) := by
  unfold ab_lld at hs ⊢
  repeat' split at hs
  all_goals first | (cases hs; done) | (cases hs; exact ⟨rfl, fun g => rfl⟩) | (cases hs; exact ⟨rfl, fun g => by simp [*]⟩) | (obtain ⟨q1, q2⟩ := ab_z_jp hs; exact ⟨q1, fun g => by first | exact q2 g | (simp [*]; done)⟩) | cases hs
theorem ab_z_ald {i n pc : Nat} {lv lv' : ab_L} {st st' : List Value} {h h' : ab_H} {pc' : Nat} (hs : ab_ald i n pc lv st h = some (pc', lv', st', h')) : h' = h ∧ ∀ g : ab_H, ab_ald i n pc lv st g = some (pc', lv', st', g) := by
  unfold ab_ald at hs ⊢
  repeat' split at hs
  all_goals first | (cases hs; done) | (cases hs; exact ⟨rfl, fun g => rfl⟩) | (cases hs; exact ⟨rfl, fun g => by simp [*]⟩) | (obtain ⟨q1, q2⟩ := ab_z_jp hs; exact ⟨q1, fun g => by first | exact q2 g | (simp [*]; done)⟩) | cases hs
theorem ab_z_ist {nL i n pc : Nat} {lv lv' : ab_L} {st st' : List Value} {h h' : ab_H} {pc' : Nat} (hs : ab_ist nL i n pc lv st h = some (pc', lv', st', h')) : h' = h ∧ ∀ g : ab_H, ab_ist nL i n pc lv st g = some (pc', lv', st', g) := by
  unfold ab_ist at hs ⊢
  repeat' split at hs
  all_goals first | (cases hs; done) | (cases hs; exact ⟨rfl, fun g => rfl⟩) | (cases hs; exact ⟨rfl, fun g => by simp [*]⟩) | (obtain ⟨q1, q2⟩ := ab_z_jp hs; exact ⟨q1, fun g => by first | exact q2 g | (simp [*]; done)⟩) | cases hs
theorem ab_z_lst {nL i n pc : Nat} {lv lv' : ab_L} {st st' : List Value} {h h' : ab_H} {pc' : Nat} (hs : ab_lst nL i n pc lv st h = some (pc', lv', st', h')) : h' = h ∧ ∀ g : ab_H, ab_lst nL i n pc lv st g = some (pc', lv', st', g) := by
  unfold ab_lst at hs ⊢
  repeat' split at hs
  all_goals first | (cases hs; done) | (cases hs; exact ⟨rfl, fun g => rfl⟩) | (cases hs; exact ⟨rfl, fun g => by simp [*]⟩) | (obtain ⟨q1, q2⟩ := ab_z_jp hs; exact ⟨q1, fun g => by first | exact q2 g | (simp [*]; done)⟩) | cases hs
theorem ab_z_ast {nL i n pc : Nat} {lv lv' : ab_L} {st st' : List Value} {h h' : ab_H} {pc' : Nat} (hs : ab_ast nL i n pc lv st h = some (pc', lv', st', h')) : h' = h ∧ ∀ g : ab_H, ab_ast nL i n pc lv st g = some (pc', lv', st', g) := by
  unfold ab_ast at hs ⊢
  repeat' split at hs
  all_goals first | (cases hs; done) | (cases hs; exact ⟨rfl, fun g => rfl⟩) | (cases hs; exact ⟨rfl, fun g => by simp [*]⟩) | (obtain ⟨q1, q2⟩ := ab_z_jp hs; exact ⟨q1, fun g => by first | exact q2 g | (simp [*]; done)⟩) | cases hs
theorem ab_z_inc {nL i : Nat} {n : Int} {pc : Nat} {lv lv' : ab_L} {st st' : List Value} {h h' : ab_H} {pc' : Nat} (hs : ab_inc nL i n pc lv st h = some (pc', lv', st', h')) : h' = h ∧ ∀ g : ab_H, ab_inc nL i n pc lv st g = some (pc', lv', st', g) := by
  unfold ab_inc at hs ⊢
  repeat' split at hs
  all_goals first | (cases hs; done) | (cases hs; exact ⟨rfl, fun g => rfl⟩) | (cases hs; exact ⟨rfl, fun g => by simp [*]⟩) | (obtain ⟨q1, q2⟩ := ab_z_jp hs; exact ⟨q1, fun g => by first | exact q2 g | (simp [*]; done)⟩) | cases hs
theorem ab_z_b1 {f : Int32 → Int32} {pc : Nat} {lv lv' : ab_L} {st st' : List Value} {h h' : ab_H} {pc' : Nat} (hs : ab_b1 f pc lv st h = some (pc', lv', st', h')) : h' = h ∧ ∀ g : ab_H, ab_b1 f pc lv st g = some (pc', lv', st', g) := by
  unfold ab_b1 at hs ⊢
  repeat' split at hs
  all_goals first | (cases hs; done) | (cases hs; exact ⟨rfl, fun g => rfl⟩) | (cases hs; exact ⟨rfl, fun g => by simp [*]⟩) | (obtain ⟨q1, q2⟩ := ab_z_jp hs; exact ⟨q1, fun g => by first | exact q2 g | (simp [*]; done)⟩) | cases hs
theorem ab_z_b2 {f : Int32 → Int32 → Int32} {pc : Nat} {lv lv' : ab_L} {st st' : List Value} {h h' : ab_H} {pc' : Nat} (hs : ab_b2 f pc lv st h = some (pc', lv', st', h')) : h' = h ∧ ∀ g : ab_H, ab_b2 f pc lv st g = some (pc', lv', st', g) := by
  unfold ab_b2 at hs ⊢
  repeat' split at hs
  all_goals first | (cases hs; done) | (cases hs; exact ⟨rfl, fun g => rfl⟩) | (cases hs; exact ⟨rfl, fun g => by simp [*]⟩) | (obtain ⟨q1, q2⟩ := ab_z_jp hs; exact ⟨q1, fun g => by first | exact q2 g | (simp [*]; done)⟩) | cases hs
theorem ab_z_dv {f : Int32 → Int32 → Int32} {pc : Nat} {lv lv' : ab_L} {st st' : List Value} {h h' : ab_H} {pc' : Nat} (hs : ab_dv f pc lv st h = some (pc', lv', st', h')) : h' = h ∧ ∀ g : ab_H, ab_dv f pc lv st g = some (pc', lv', st', g) := by
  unfold ab_dv at hs ⊢
  repeat' split at hs
  all_goals first | (cases hs; done) | (cases hs; exact ⟨rfl, fun g => rfl⟩) | (cases hs; exact ⟨rfl, fun g => by simp [*]⟩) | (obtain ⟨q1, q2⟩ := ab_z_jp hs; exact ⟨q1, fun g => by first | exact q2 g | (simp [*]; done)⟩) | cases hs
theorem ab_z_l2 {f : Int64 → Int64 → Int64} {pc : Nat} {lv lv' : ab_L} {st st' : List Value} {h h' : ab_H} {pc' : Nat} (hs : ab_l2 f pc lv st h = some (pc', lv', st', h')) : h' = h ∧ ∀ g : ab_H, ab_l2 f pc lv st g = some (pc', lv', st', g) := by
  unfold ab_l2 at hs ⊢
  repeat' split at hs
  all_goals first | (cases hs; done) | (cases hs; exact ⟨rfl, fun g => rfl⟩) | (cases hs; exact ⟨rfl, fun g => by simp [*]⟩) | (obtain ⟨q1, q2⟩ := ab_z_jp hs; exact ⟨q1, fun g => by first | exact q2 g | (simp [*]; done)⟩) | cases hs
theorem ab_z_lc {pc : Nat} {lv lv' : ab_L} {st st' : List Value} {h h' : ab_H} {pc' : Nat} (hs : ab_lc pc lv st h = some (pc', lv', st', h')) : h' = h ∧ ∀ g : ab_H, ab_lc pc lv st g = some (pc', lv', st', g) := by
  unfold ab_lc at hs ⊢
  repeat' split at hs
  all_goals first | (cases hs; done) | (cases hs; exact ⟨rfl, fun g => rfl⟩) | (cases hs; exact ⟨rfl, fun g => by simp [*]⟩) | (obtain ⟨q1, q2⟩ := ab_z_jp hs; exact ⟨q1, fun g => by first | exact q2 g | (simp [*]; done)⟩) | cases hs
theorem ab_z_ls {f : Int64 → Int32 → Int64} {pc : Nat} {lv lv' : ab_L} {st st' : List Value} {h h' : ab_H} {pc' : Nat} (hs : ab_ls f pc lv st h = some (pc', lv', st', h')) : h' = h ∧ ∀ g : ab_H, ab_ls f pc lv st g = some (pc', lv', st', g) := by
  unfold ab_ls at hs ⊢
  repeat' split at hs
  all_goals first | (cases hs; done) | (cases hs; exact ⟨rfl, fun g => rfl⟩) | (cases hs; exact ⟨rfl, fun g => by simp [*]⟩) | (obtain ⟨q1, q2⟩ := ab_z_jp hs; exact ⟨q1, fun g => by first | exact q2 g | (simp [*]; done)⟩) | cases hs
theorem ab_z_il {pc : Nat} {lv lv' : ab_L} {st st' : List Value} {h h' : ab_H} {pc' : Nat} (hs : ab_il pc lv st h = some (pc', lv', st', h')) : h' = h ∧ ∀ g : ab_H, ab_il pc lv st g = some (pc', lv', st', g) := by
  unfold ab_il at hs ⊢
  repeat' split at hs
  all_goals first | (cases hs; done) | (cases hs; exact ⟨rfl, fun g => rfl⟩) | (cases hs; exact ⟨rfl, fun g => by simp [*]⟩) | (obtain ⟨q1, q2⟩ := ab_z_jp hs; exact ⟨q1, fun g => by first | exact q2 g | (simp [*]; done)⟩) | cases hs
theorem ab_z_li {pc : Nat} {lv lv' : ab_L} {st st' : List Value} {h h' : ab_H} {pc' : Nat} (hs : ab_li pc lv st h = some (pc', lv', st', h')) : h' = h ∧ ∀ g : ab_H, ab_li pc lv st g = some (pc', lv', st', g) := by
  unfold ab_li at hs ⊢
  repeat' split at hs
  all_goals first | (cases hs; done) | (cases hs; exact ⟨rfl, fun g => rfl⟩) | (cases hs; exact ⟨rfl, fun g => by simp [*]⟩) | (obtain ⟨q1, q2⟩ := ab_z_jp hs; exact ⟨q1, fun g => by first | exact q2 g | (simp [*]; done)⟩) | cases hs
theorem ab_z_dup {pc : Nat} {lv lv' : ab_L} {st st' : List Value} {h h' : ab_H} {pc' : Nat} (hs : ab_dup pc lv st h = some (pc', lv', st', h')) : h' = h ∧ ∀ g : ab_H, ab_dup pc lv st g = some (pc', lv', st', g) := by
  unfold ab_dup at hs ⊢
  repeat' split at hs
  all_goals first | (cases hs; done) | (cases hs; exact ⟨rfl, fun g => rfl⟩) | (cases hs; exact ⟨rfl, fun g => by simp [*]⟩) | (obtain ⟨q1, q2⟩ := ab_z_jp hs; exact ⟨q1, fun g => by first | exact q2 g | (simp [*]; done)⟩) | cases hs
theorem ab_z_pop {pc : Nat} {lv lv' : ab_L} {st st' : List Value} {h h' : ab_H} {pc' : Nat} (hs : ab_pop pc lv st h = some (pc', lv', st', h')) : h' = h ∧ ∀ g : ab_H, ab_pop pc lv st g = some (pc', lv', st', g) := by
  unfold ab_pop at hs ⊢
  repeat' split at hs
  all_goals first | (cases hs; done) | (cases hs; exact ⟨rfl, fun g => rfl⟩) | (cases hs; exact ⟨rfl, fun g => by simp [*]⟩) | (obtain ⟨q1, q2⟩ := ab_z_jp hs; exact ⟨q1, fun g => by first | exact q2 g | (simp [*]; done)⟩) | cases hs
theorem ab_z_dx1 {pc : Nat} {lv lv' : ab_L} {st st' : List Value} {h h' : ab_H} {pc' : Nat} (hs : ab_dx1 pc lv st h = some (pc', lv', st', h')) : h' = h ∧ ∀ g : ab_H, ab_dx1 pc lv st g = some (pc', lv', st', g) := by
  unfold ab_dx1 at hs ⊢
  repeat' split at hs
  all_goals first | (cases hs; done) | (cases hs; exact ⟨rfl, fun g => rfl⟩) | (cases hs; exact ⟨rfl, fun g => by simp [*]⟩) | (obtain ⟨q1, q2⟩ := ab_z_jp hs; exact ⟨q1, fun g => by first | exact q2 g | (simp [*]; done)⟩) | cases hs
theorem ab_z_d2 {pc : Nat} {lv lv' : ab_L} {st st' : List Value} {h h' : ab_H} {pc' : Nat} (hs : ab_d2 pc lv st h = some (pc', lv', st', h')) : h' = h ∧ ∀ g : ab_H, ab_d2 pc lv st g = some (pc', lv', st', g) := by
  unfold ab_d2 at hs ⊢
  repeat' split at hs
  all_goals first | (cases hs; done) | (cases hs; exact ⟨rfl, fun g => rfl⟩) | (cases hs; exact ⟨rfl, fun g => by simp [*]⟩) | (obtain ⟨q1, q2⟩ := ab_z_jp hs; exact ⟨q1, fun g => by first | exact q2 g | (simp [*]; done)⟩) | cases hs
theorem ab_z_if {c : ClassFile.Cond} {off : Int} {pc : Nat} {lv lv' : ab_L} {st st' : List Value} {h h' : ab_H} {pc' : Nat} (hs : ab_if c off pc lv st h = some (pc', lv', st', h')) : h' = h ∧ ∀ g : ab_H, ab_if c off pc lv st g = some (pc', lv', st', g) := by
  unfold ab_if at hs ⊢
  repeat' split at hs
  all_goals first | (cases hs; done) | (cases hs; exact ⟨rfl, fun g => rfl⟩) | (cases hs; exact ⟨rfl, fun g => by simp [*]⟩) | (obtain ⟨q1, q2⟩ := ab_z_jp hs; exact ⟨q1, fun g => by first | exact q2 g | (simp [*]; done)⟩) | cases hs
theorem ab_z_ic {c : ClassFile.Cond} {off : Int} {pc : Nat} {lv lv' : ab_L} {st st' : List Value} {h h' : ab_H} {pc' : Nat} (hs : ab_ic c off pc lv st h = some (pc', lv', st', h')) : h' = h ∧ ∀ g : ab_H, ab_ic c off pc lv st g = some (pc', lv', st', g) := by
  unfold ab_ic at hs ⊢
  repeat' split at hs
  all_goals first | (cases hs; done) | (cases hs; exact ⟨rfl, fun g => rfl⟩) | (cases hs; exact ⟨rfl, fun g => by simp [*]⟩) | (obtain ⟨q1, q2⟩ := ab_z_jp hs; exact ⟨q1, fun g => by first | exact q2 g | (simp [*]; done)⟩) | cases hs
theorem ab_z_tsw {d lo hi : Int} {offs : Array Int} {pc : Nat} {lv lv' : ab_L} {st st' : List Value} {h h' : ab_H} {pc' : Nat} (hs : ab_tsw d lo hi offs pc lv st h = some (pc', lv', st', h')) : h' = h ∧ ∀ g : ab_H, ab_tsw d lo hi offs pc lv st g = some (pc', lv', st', g) := by
  unfold ab_tsw at hs ⊢
  repeat' split at hs
  all_goals first | (cases hs; done) | (cases hs; exact ⟨rfl, fun g => rfl⟩) | (cases hs; exact ⟨rfl, fun g => by simp [*]⟩) | (obtain ⟨q1, q2⟩ := ab_z_jp hs; exact ⟨q1, fun g => by first | exact q2 g | (simp [*]; done)⟩) | cases hs
theorem ab_z_gs {k pc : Nat} {lv lv' : ab_L} {st st' : List Value} {h h' : ab_H} {pc' : Nat} (hs : ab_gs k pc lv st h = some (pc', lv', st', h')) : h' = h ∧ ∀ g : ab_H, ab_gs k pc lv st g = some (pc', lv', st', g) := by
  unfold ab_gs at hs ⊢
  repeat' split at hs
  all_goals first | (cases hs; done) | (cases hs; exact ⟨rfl, fun g => rfl⟩) | (cases hs; exact ⟨rfl, fun g => by simp [*]⟩) | (obtain ⟨q1, q2⟩ := ab_z_jp hs; exact ⟨q1, fun g => by first | exact q2 g | (simp [*]; done)⟩) | cases hs
theorem ab_z_lds {k pc : Nat} {lv lv' : ab_L} {st st' : List Value} {h h' : ab_H} {pc' : Nat} (hs : ab_lds k pc lv st h = some (pc', lv', st', h')) : h' = h ∧ ∀ g : ab_H, ab_lds k pc lv st g = some (pc', lv', st', g) := by
  unfold ab_lds at hs ⊢
  repeat' split at hs
  all_goals first | (cases hs; done) | (cases hs; exact ⟨rfl, fun g => rfl⟩) | (cases hs; exact ⟨rfl, fun g => by simp [*]⟩) | (obtain ⟨q1, q2⟩ := ab_z_jp hs; exact ⟨q1, fun g => by first | exact q2 g | (simp [*]; done)⟩) | cases hs
theorem ab_z_gx {f pc : Nat} {lv lv' : ab_L} {st st' : List Value} {h h' : ab_H} {pc' : Nat} (hs : ab_gx f pc lv st h = some (pc', lv', st', h')) : h' = h ∧ ∀ g : ab_H, ab_gx f pc lv st g = some (pc', lv', st', g) := by
  unfold ab_gx at hs ⊢
  repeat' split at hs
  all_goals first | (cases hs; done) | (cases hs; exact ⟨rfl, fun g => rfl⟩) | (cases hs; exact ⟨rfl, fun g => by simp [*]⟩) | (obtain ⟨q1, q2⟩ := ab_z_jp hs; exact ⟨q1, fun g => by first | exact q2 g | (simp [*]; done)⟩) | cases hs
theorem ab_z_lsw {d : Int} {ps : Array (Int × Int)} {pc pc' : Nat} {lv lv' : ab_L} {st st' : List Value} {h h' : ab_H} (hs : ab_lsw d ps pc lv st h = some (pc', lv', st', h')) : h' = h ∧ ∀ g : ab_H, ab_lsw d ps pc lv st g = some (pc', lv', st', g) := by
  unfold ab_lsw at hs ⊢
  split at hs
  · split at hs
    · rename_i hp
      obtain ⟨q1, q2⟩ := ab_z_jp hs
      exact ⟨q1, fun g => by dsimp only; rw [if_pos hp]; exact q2 g⟩
    · cases hs
  · cases hs
theorem ab_y_get {S : Nat → Prop} {g : ab_H} {ci k pc : Nat} {lv lv' : ab_L} {st st' : List Value} {h h' : ab_H} {pc' : Nat} (hs : ab_get ci k pc lv st h = some (pc', lv', st', h')) (q : ab_sim S h g) : ∃ g', ab_get ci k pc lv st g = some (pc', lv', st', g') ∧ ab_sm2 S h' g g' := by
  unfold ab_get at hs ⊢
  split at hs
  · split at hs
    · rename_i a r cj fs ho
      split at hs
      · rename_i hcj
        split at hs
        · rename_i v hv
          cases hs
          obtain ⟨h1, h2⟩ := q.rd ho (ab_bad_c (List.getElem?_eq_some_iff.mp hv).1)
          exact ⟨g, by simp only [h1, if_pos hcj, hv], q.same⟩
        · cases hs
      · cases hs
    · cases hs
  · cases hs
theorem ab_y_put {S : Nat → Prop} {g : ab_H} {ci k pc : Nat} {lv lv' : ab_L} {st st' : List Value} {h h' : ab_H} {pc' : Nat} (hs : ab_put ci k pc lv st h = some (pc', lv', st', h')) (q : ab_sim S h g) : ∃ g', ab_put ci k pc lv st g = some (pc', lv', st', g') ∧ ab_sm2 S h' g g' := by
  unfold ab_put at hs ⊢
  split at hs
  · split at hs
    · rename_i v a r cj fs ho
      split at hs
      · rename_i hcj
        cases hs
        obtain ⟨h1, h2⟩ := q.rd ho (ab_bad_c hcj.2.1)
        exact ⟨_, by simp only [h1, if_pos hcj], q.wr h2 _⟩
      · cases hs
    · cases hs
  · cases hs
theorem ab_y_ial {S : Nat → Prop} {g : ab_H} {pc : Nat} {lv lv' : ab_L} {st st' : List Value} {h h' : ab_H} {pc' : Nat} (hs : ab_ial pc lv st h = some (pc', lv', st', h')) (q : ab_sim S h g) : ∃ g', ab_ial pc lv st g = some (pc', lv', st', g') ∧ ab_sm2 S h' g g' := by
  unfold ab_ial at hs ⊢
  split at hs
  · split at hs
    · rename_i i a r n f ho
      split at hs
      · rename_i hi
        cases hs
        obtain ⟨h1, h2⟩ := q.rd ho ab_bad_l
        exact ⟨g, by simp only [h1, if_pos hi], q.same⟩
      · cases hs
    · cases hs
  · cases hs
theorem ab_y_lal {S : Nat → Prop} {g : ab_H} {pc : Nat} {lv lv' : ab_L} {st st' : List Value} {h h' : ab_H} {pc' : Nat} (hs : ab_lal pc lv st h = some (pc', lv', st', h')) (q : ab_sim S h g) : ∃ g', ab_lal pc lv st g = some (pc', lv', st', g') ∧ ab_sm2 S h' g g' := by
  unfold ab_lal at hs ⊢
  split at hs
  · split at hs
    · rename_i i a r n f ho
      split at hs
      · rename_i hi
        cases hs
        obtain ⟨h1, h2⟩ := q.rd ho ab_bad_l
        exact ⟨g, by simp only [h1, if_pos hi], q.same⟩
      · cases hs
    · cases hs
  · cases hs
theorem ab_y_aal {S : Nat → Prop} {g : ab_H} {pc : Nat} {lv lv' : ab_L} {st st' : List Value} {h h' : ab_H} {pc' : Nat} (hs : ab_aal pc lv st h = some (pc', lv', st', h')) (q : ab_sim S h g) : ∃ g', ab_aal pc lv st g = some (pc', lv', st', g') ∧ ab_sm2 S h' g g' := by
  unfold ab_aal at hs ⊢
  split at hs
  · split at hs
    · rename_i i a r n f ho
      split at hs
      · rename_i hi
        cases hs
        obtain ⟨h1, h2⟩ := q.rd ho ab_bad_l
        exact ⟨g, by simp only [h1, if_pos hi], q.same⟩
      · cases hs
    · cases hs
  · cases hs
theorem ab_y_bal {S : Nat → Prop} {g : ab_H} {pc : Nat} {lv lv' : ab_L} {st st' : List Value} {h h' : ab_H} {pc' : Nat} (hs : ab_bal pc lv st h = some (pc', lv', st', h')) (q : ab_sim S h g) : ∃ g', ab_bal pc lv st g = some (pc', lv', st', g') ∧ ab_sm2 S h' g g' := by
  unfold ab_bal at hs ⊢
  split at hs
  · split at hs
    · rename_i i a r n f ho
      split at hs
      · rename_i hi
        cases hs
        obtain ⟨h1, h2⟩ := q.rd ho ab_bad_l
        exact ⟨g, by simp only [h1, if_pos hi], q.same⟩
      · cases hs
    · rename_i i a r n f ho
      split at hs
      · rename_i hi
        cases hs
        obtain ⟨h1, h2⟩ := q.rd ho ab_bad_l
        exact ⟨g, by simp only [h1, if_pos hi], q.same⟩
      · cases hs
    · cases hs
  · cases hs
theorem ab_y_len {S : Nat → Prop} {g : ab_H} {pc : Nat} {lv lv' : ab_L} {st st' : List Value} {h h' : ab_H} {pc' : Nat} (hs : ab_len pc lv st h = some (pc', lv', st', h')) (q : ab_sim S h g) : ∃ g', ab_len pc lv st g = some (pc', lv', st', g') ∧ ab_sm2 S h' g g' := by
  unfold ab_len at hs ⊢
  split at hs
  · split at hs
    · rename_i a r t n f ho
      split at hs
      · rename_i ht
        cases hs
        obtain ⟨h1, h2⟩ := q.rd ho ab_bad_l
        exact ⟨g, by simp only [h1, if_pos ht], q.same⟩
      · cases hs
    · cases hs
  · cases hs
theorem ab_y_ias {S : Nat → Prop} {g : ab_H} {pc : Nat} {lv lv' : ab_L} {st st' : List Value} {h h' : ab_H} {pc' : Nat} (hs : ab_ias pc lv st h = some (pc', lv', st', h')) (q : ab_sim S h g) : ∃ g', ab_ias pc lv st g = some (pc', lv', st', g') ∧ ab_sm2 S h' g g' := by
  unfold ab_ias at hs ⊢
  split at hs
  · split at hs
    · rename_i x i a r n f ho
      split at hs
      · rename_i hi
        cases hs
        obtain ⟨h1, h2⟩ := q.rd ho ab_bad_l
        exact ⟨_, by simp only [h1, if_pos hi], q.wr h2 _⟩
      · cases hs
    · cases hs
  · cases hs
theorem ab_y_las {S : Nat → Prop} {g : ab_H} {pc : Nat} {lv lv' : ab_L} {st st' : List Value} {h h' : ab_H} {pc' : Nat} (hs : ab_las pc lv st h = some (pc', lv', st', h')) (q : ab_sim S h g) : ∃ g', ab_las pc lv st g = some (pc', lv', st', g') ∧ ab_sm2 S h' g g' := by
  unfold ab_las at hs ⊢
  split at hs
  · split at hs
    · rename_i x i a r n f ho
      split at hs
      · rename_i hi
        cases hs
        obtain ⟨h1, h2⟩ := q.rd ho ab_bad_l
        exact ⟨_, by simp only [h1, if_pos hi], q.wr h2 _⟩
      · cases hs
    · cases hs
  · cases hs
theorem ab_y_bas {S : Nat → Prop} {g : ab_H} {pc : Nat} {lv lv' : ab_L} {st st' : List Value} {h h' : ab_H} {pc' : Nat} (hs : ab_bas pc lv st h = some (pc', lv', st', h')) (q : ab_sim S h g) : ∃ g', ab_bas pc lv st g = some (pc', lv', st', g') ∧ ab_sm2 S h' g g' := by
  unfold ab_bas at hs ⊢
  split at hs
  · split at hs
    · rename_i x i a r n f ho
      split at hs
      · rename_i hi
        cases hs
        obtain ⟨h1, h2⟩ := q.rd ho ab_bad_l
        exact ⟨_, by simp only [h1, if_pos hi], q.wr h2 _⟩
      · cases hs
    · rename_i x i a r n f ho
      split at hs
      · rename_i hi
        cases hs
        obtain ⟨h1, h2⟩ := q.rd ho ab_bad_l
        exact ⟨_, by simp only [h1, if_pos hi], q.wr h2 _⟩
      · cases hs
    · cases hs
  · cases hs
theorem ab_y_aas {S : Nat → Prop} {g : ab_H} {pc : Nat} {lv lv' : ab_L} {st st' : List Value} {h h' : ab_H} {pc' : Nat} (hs : ab_aas pc lv st h = some (pc', lv', st', h')) (q : ab_sim S h g) : ∃ g', ab_aas pc lv st g = some (pc', lv', st', g') ∧ ab_sm2 S h' g g' := by
  unfold ab_aas at hs ⊢
  split at hs
  · split at hs
    · rename_i v i a r n f ho
      split at hs
      · rename_i vs hov
        split at hs
        · rename_i hi
          cases hs
          obtain ⟨h1, h2⟩ := q.rd ho ab_bad_l
          obtain ⟨h3, h4⟩ := q.rd hov (ab_bad_n (by decide))
          exact ⟨_, by simp only [h1, h3, if_pos hi], q.wr h2 _⟩
        · cases hs
      · cases hs
    · cases hs
  · cases hs
theorem ab_y_new {S : Nat → Prop} {g : ab_H} {ci pc : Nat} {lv lv' : ab_L} {st st' : List Value} {h h' : ab_H} {pc' : Nat} (hs : ab_new ci pc lv st h = some (pc', lv', st', h')) (q : ab_sim S h g) : ∃ g', ab_new ci pc lv st g = some (pc', lv', st', g') ∧ ab_sm2 S h' g g' := by
  cases hs
  refine ⟨ab_nw g (ab_N ci) (.inr (ci, ab_df ci)), ?_, q.nw _ _⟩
  unfold ab_new
  rw [q.1]
theorem ab_y_nwa {S : Nat → Prop} {g : ab_H} {t : ArrayType} {pc : Nat} {lv lv' : ab_L} {st st' : List Value} {h h' : ab_H} {pc' : Nat} (hs : ab_nwa t pc lv st h = some (pc', lv', st', h')) (q : ab_sim S h g) : ∃ g', ab_nwa t pc lv st g = some (pc', lv', st', g') ∧ ab_sm2 S h' g g' := by
  unfold ab_nwa at hs ⊢
  split at hs
  · split at hs
    · rename_i n r q0 htau
      split at hs
      · rename_i hn
        cases hs
        refine ⟨_, ?_, q.nw _ _⟩
        simp only [htau, if_pos hn, q.1]
      · cases hs
    · cases hs
  · cases hs
theorem ab_y_ana {S : Nat → Prop} {g : ab_H} {pc : Nat} {lv lv' : ab_L} {st st' : List Value} {h h' : ab_H} {pc' : Nat} (hs : ab_ana pc lv st h = some (pc', lv', st', h')) (q : ab_sim S h g) : ∃ g', ab_ana pc lv st g = some (pc', lv', st', g') ∧ ab_sm2 S h' g g' := by
  unfold ab_ana at hs ⊢
  split at hs
  · rename_i n r
    split at hs
    · rename_i hn
      cases hs
      refine ⟨_, ?_, q.nw _ _⟩
      simp only [if_pos hn, q.1]
    · cases hs
  · cases hs
theorem ab_y_lal2 {S : Nat → Prop} {g : ab_H} {pc : Nat} {lv lv' : ab_L} {st st' : List Value} {h h' : ab_H} {pc' : Nat} (hs : ab_lal2 pc lv st h = some (pc', lv', st', h')) (q : ab_sim S h g) : ∃ g', ab_lal2 pc lv st g = some (pc', lv', st', g') ∧ ab_sm2 S h' g g' := by
  unfold ab_lal2 at hs ⊢
  split at hs
  · split at hs
    · rename_i hc
      cases hs
      exact ⟨g, by simp only [if_pos hc], q.same⟩
    · cases hs
  · obtain ⟨g', h1, h2⟩ := ab_y_lal hs q
    exact ⟨g', h1, h2⟩
theorem ab_y_bal2 {S : Nat → Prop} {g : ab_H} {pc : Nat} {lv lv' : ab_L} {st st' : List Value} {h h' : ab_H} {pc' : Nat} (hs : ab_bal2 pc lv st h = some (pc', lv', st', h')) (q : ab_sim S h g) : ∃ g', ab_bal2 pc lv st g = some (pc', lv', st', g') ∧ ab_sm2 S h' g g' := by
  unfold ab_bal2 at hs ⊢
  split at hs
  · split at hs
    · rename_i hc
      cases hs
      exact ⟨g, by simp only [if_pos hc], q.same⟩
    · cases hs
  · obtain ⟨g', h1, h2⟩ := ab_y_bal hs q
    exact ⟨g', h1, h2⟩
theorem ab_y_len2 {S : Nat → Prop} {g : ab_H} {pc : Nat} {lv lv' : ab_L} {st st' : List Value} {h h' : ab_H} {pc' : Nat} (hs : ab_len2 pc lv st h = some (pc', lv', st', h')) (q : ab_sim S h g) : ∃ g', ab_len2 pc lv st g = some (pc', lv', st', g') ∧ ab_sm2 S h' g g' := by
  unfold ab_len2 at hs ⊢
  split at hs
  · split at hs
    · rename_i hc
      cases hs
      exact ⟨g, by simp only [if_pos hc], q.same⟩
    · cases hs
  · obtain ⟨g', h1, h2⟩ := ab_y_len hs q
    exact ⟨g', h1, h2⟩
theorem ab_y_cpy {S : Nat → Prop} {g : ab_H} {pc : Nat} {lv lv' : ab_L} {st st' : List Value} {h h' : ab_H} {pc' : Nat} (hs : ab_cpy pc lv st h = some (pc', lv', st', h')) (q : ab_sim S h g) : ∃ g', ab_cpy pc lv st g = some (pc', lv', st', g') ∧ ab_sm2 S h' g g' := by
  unfold ab_cpy at hs ⊢
  split at hs
  · split at hs
    · rename_i n dp a sp a0 r n0 f ho
      split at hs
      · rename_i n1 g1 ho1
        split at hs
        · rename_i hi
          cases hs
          obtain ⟨h1, h2⟩ := q.rd ho ab_bad_l
          obtain ⟨h3, h4⟩ := q.rd ho1 ab_bad_l
          exact ⟨_, by simp only [h1, h3, if_pos hi], q.wr h4 _⟩
        · cases hs
      · cases hs
    · cases hs
  · cases hs
theorem ab_sp_sim {S : Nat → Prop} {g : ab_H} {nL : Nat} {it : ab_I} {pc pc' : Nat} {lv lv' : ab_L} {st st' : List Value} {h h' : ab_H} (hs : ab_sp nL it pc lv st h = some (pc', lv', st', h')) (q : ab_sim S h g) : ∃ g', ab_sp nL it pc lv st g = some (pc', lv', st', g') ∧ ab_sm2 S h' g g' := by
  obtain ⟨i, len, r0, r1, r2, cst, ix⟩ := it
  cases i with
  | iconst n => obtain ⟨rfl, h2⟩ := ab_z_k hs; exact ⟨g, h2 g, q.same⟩
  | bipush n => obtain ⟨rfl, h2⟩ := ab_z_k hs; exact ⟨g, h2 g, q.same⟩
  | sipush n => obtain ⟨rfl, h2⟩ := ab_z_k hs; exact ⟨g, h2 g, q.same⟩
  | lconst n => obtain ⟨rfl, h2⟩ := ab_z_k hs; exact ⟨g, h2 g, q.same⟩
  | ldc_w i => obtain ⟨rfl, h2⟩ := ab_z_k hs; exact ⟨g, h2 g, q.same⟩
  | ldc2_w i => obtain ⟨rfl, h2⟩ := ab_z_k hs; exact ⟨g, h2 g, q.same⟩
  | iload_n k => obtain ⟨rfl, h2⟩ := ab_z_ild hs; exact ⟨g, h2 g, q.same⟩
  | iload i => obtain ⟨rfl, h2⟩ := ab_z_ild hs; exact ⟨g, h2 g, q.same⟩
  | lload_n k => obtain ⟨rfl, h2⟩ := ab_z_lld hs; exact ⟨g, h2 g, q.same⟩
  | lload i => obtain ⟨rfl, h2⟩ := ab_z_lld hs; exact ⟨g, h2 g, q.same⟩
  | aload_n k => obtain ⟨rfl, h2⟩ := ab_z_ald hs; exact ⟨g, h2 g, q.same⟩
  | aload i => obtain ⟨rfl, h2⟩ := ab_z_ald hs; exact ⟨g, h2 g, q.same⟩
  | istore_n k => obtain ⟨rfl, h2⟩ := ab_z_ist hs; exact ⟨g, h2 g, q.same⟩
  | istore i => obtain ⟨rfl, h2⟩ := ab_z_ist hs; exact ⟨g, h2 g, q.same⟩
  | lstore_n k => obtain ⟨rfl, h2⟩ := ab_z_lst hs; exact ⟨g, h2 g, q.same⟩
  | lstore i => obtain ⟨rfl, h2⟩ := ab_z_lst hs; exact ⟨g, h2 g, q.same⟩
  | astore_n k => obtain ⟨rfl, h2⟩ := ab_z_ast hs; exact ⟨g, h2 g, q.same⟩
  | astore i => obtain ⟨rfl, h2⟩ := ab_z_ast hs; exact ⟨g, h2 g, q.same⟩
  | iinc i n => obtain ⟨rfl, h2⟩ := ab_z_inc hs; exact ⟨g, h2 g, q.same⟩
  | iadd => obtain ⟨rfl, h2⟩ := ab_z_b2 hs; exact ⟨g, h2 g, q.same⟩
  | isub => obtain ⟨rfl, h2⟩ := ab_z_b2 hs; exact ⟨g, h2 g, q.same⟩
  | imul => obtain ⟨rfl, h2⟩ := ab_z_b2 hs; exact ⟨g, h2 g, q.same⟩
  | iand => obtain ⟨rfl, h2⟩ := ab_z_b2 hs; exact ⟨g, h2 g, q.same⟩
  | ior => obtain ⟨rfl, h2⟩ := ab_z_b2 hs; exact ⟨g, h2 g, q.same⟩
  | ixor => obtain ⟨rfl, h2⟩ := ab_z_b2 hs; exact ⟨g, h2 g, q.same⟩
  | ishl => obtain ⟨rfl, h2⟩ := ab_z_b2 hs; exact ⟨g, h2 g, q.same⟩
  | ishr => obtain ⟨rfl, h2⟩ := ab_z_b2 hs; exact ⟨g, h2 g, q.same⟩
  | iushr => obtain ⟨rfl, h2⟩ := ab_z_b2 hs; exact ⟨g, h2 g, q.same⟩
  | idiv => obtain ⟨rfl, h2⟩ := ab_z_dv hs; exact ⟨g, h2 g, q.same⟩
  | irem => obtain ⟨rfl, h2⟩ := ab_z_dv hs; exact ⟨g, h2 g, q.same⟩
  | ineg => obtain ⟨rfl, h2⟩ := ab_z_b1 hs; exact ⟨g, h2 g, q.same⟩
  | i2b => obtain ⟨rfl, h2⟩ := ab_z_b1 hs; exact ⟨g, h2 g, q.same⟩
  | i2s => obtain ⟨rfl, h2⟩ := ab_z_b1 hs; exact ⟨g, h2 g, q.same⟩
  | i2c => obtain ⟨rfl, h2⟩ := ab_z_b1 hs; exact ⟨g, h2 g, q.same⟩
  | i2l => obtain ⟨rfl, h2⟩ := ab_z_il hs; exact ⟨g, h2 g, q.same⟩
  | l2i => obtain ⟨rfl, h2⟩ := ab_z_li hs; exact ⟨g, h2 g, q.same⟩
  | ladd => obtain ⟨rfl, h2⟩ := ab_z_l2 hs; exact ⟨g, h2 g, q.same⟩
  | lsub => obtain ⟨rfl, h2⟩ := ab_z_l2 hs; exact ⟨g, h2 g, q.same⟩
  | lmul => obtain ⟨rfl, h2⟩ := ab_z_l2 hs; exact ⟨g, h2 g, q.same⟩
  | land => obtain ⟨rfl, h2⟩ := ab_z_l2 hs; exact ⟨g, h2 g, q.same⟩
  | lor => obtain ⟨rfl, h2⟩ := ab_z_l2 hs; exact ⟨g, h2 g, q.same⟩
  | lxor => obtain ⟨rfl, h2⟩ := ab_z_l2 hs; exact ⟨g, h2 g, q.same⟩
  | lcmp => obtain ⟨rfl, h2⟩ := ab_z_lc hs; exact ⟨g, h2 g, q.same⟩
  | lshl => obtain ⟨rfl, h2⟩ := ab_z_ls hs; exact ⟨g, h2 g, q.same⟩
  | lshr => obtain ⟨rfl, h2⟩ := ab_z_ls hs; exact ⟨g, h2 g, q.same⟩
  | lushr => obtain ⟨rfl, h2⟩ := ab_z_ls hs; exact ⟨g, h2 g, q.same⟩
  | dup => obtain ⟨rfl, h2⟩ := ab_z_dup hs; exact ⟨g, h2 g, q.same⟩
  | pop => obtain ⟨rfl, h2⟩ := ab_z_pop hs; exact ⟨g, h2 g, q.same⟩
  | dup_x1 => obtain ⟨rfl, h2⟩ := ab_z_dx1 hs; exact ⟨g, h2 g, q.same⟩
  | dup2 => obtain ⟨rfl, h2⟩ := ab_z_d2 hs; exact ⟨g, h2 g, q.same⟩
  | ifCond cd off => obtain ⟨rfl, h2⟩ := ab_z_if hs; exact ⟨g, h2 g, q.same⟩
  | if_icmp cd off => obtain ⟨rfl, h2⟩ := ab_z_ic hs; exact ⟨g, h2 g, q.same⟩
  | goto off => obtain ⟨rfl, h2⟩ := ab_z_jp hs; exact ⟨g, h2 g, q.same⟩
  | getstatic i => obtain ⟨rfl, h2⟩ := ab_z_gs hs; exact ⟨g, h2 g, q.same⟩
  | tableswitch d lo hi offs => obtain ⟨rfl, h2⟩ := ab_z_tsw hs; exact ⟨g, h2 g, q.same⟩
  | lookupswitch d ps => obtain ⟨rfl, h2⟩ := ab_z_lsw hs; exact ⟨g, h2 g, q.same⟩
  | putfield i => exact ab_y_put hs q
  | iaload => exact ab_y_ial hs q
  | baload => exact ab_y_bal2 hs q
  | laload => exact ab_y_lal2 hs q
  | aaload => exact ab_y_aal hs q
  | arraylength => exact ab_y_len2 hs q
  | iastore => exact ab_y_ias hs q
  | bastore => exact ab_y_bas hs q
  | lastore => exact ab_y_las hs q
  | aastore => exact ab_y_aas hs q
  | new i => exact ab_y_new hs q
  | newarray t => exact ab_y_nwa hs q
  | anewarray i => exact ab_y_ana hs q
  | ldc i =>
    have hs : (if r0 = 7 then ab_lds r1 pc lv st h else ab_k 2 pc (.int (Int32.ofInt cst)) lv st h) = some (pc', lv', st', h') := hs
    show ∃ g', (if r0 = 7 then ab_lds r1 pc lv st g else ab_k 2 pc (.int (Int32.ofInt cst)) lv st g) = some (pc', lv', st', g') ∧ ab_sm2 S h' g g'
    by_cases h7 : r0 = 7
    · simp only [if_pos h7] at hs ⊢
      obtain ⟨rfl, h2⟩ := ab_z_lds hs; exact ⟨g, h2 g, q.same⟩
    · simp only [if_neg h7] at hs ⊢
      obtain ⟨rfl, h2⟩ := ab_z_k hs; exact ⟨g, h2 g, q.same⟩
  | getfield i =>
    have hs : (if r0 = 20 then ab_gx r1 pc lv st h else ab_get r0 r1 pc lv st h) = some (pc', lv', st', h') := hs
    show ∃ g', (if r0 = 20 then ab_gx r1 pc lv st g else ab_get r0 r1 pc lv st g) = some (pc', lv', st', g') ∧ ab_sm2 S h' g g'
    by_cases h7 : r0 = 20
    · simp only [if_pos h7] at hs ⊢
      obtain ⟨rfl, h2⟩ := ab_z_gx hs; exact ⟨g, h2 g, q.same⟩
    · simp only [if_neg h7] at hs ⊢
      exact ab_y_get hs q
  | invokestatic i =>
    have hs : (if r0 = 8 then ab_cpy pc lv st h else none) = some (pc', lv', st', h') := hs
    show ∃ g', (if r0 = 8 then ab_cpy pc lv st g else none) = some (pc', lv', st', g') ∧ ab_sm2 S h' g g'
    by_cases h7 : r0 = 8
    · simp only [if_pos h7] at hs ⊢
      exact ab_y_cpy hs q
    · simp only [if_neg h7] at hs
      cases hs
  | _ => exact absurd (show (none : Option ab_S) = some (pc', lv', st', h') from hs) (fun q => by cases q)
theorem ab_cal_sim {S : Nat → Prop} {g h : ab_H} {it : ab_I} {st : List Value} {c : ab_M × List Value × List Value} (hs : ab_cal ab_G it st h = some c) (q : ab_sim S h g) : ab_cal ab_G it st g = some c := by
  unfold ab_cal at hs ⊢
  split at hs
  · cases hs
  · rename_i M hM
    split at hs
    · rename_i hlen
      split at hs
      · rename_i h13
        simp only [if_pos hlen, if_pos h13]
        exact hs
      · rename_i h13
        split at hs
        · rename_i a rest hdrop
          split at hs
          · rename_i h0
            split at hs
            · rename_i ci fs hrd
              split at hs
              · rename_i hk
                cases hs
                have hn : ci ≠ 99 := by
                  intro h99
                  obtain ⟨-, -, T, N, hcl⟩ := (ab_G_ok _ _ hM).1.2.2.2.2.2.2.1 hk.2.1
                  rw [← hk.1, h99] at hcl
                  cases (show none = _ from hcl)
                obtain ⟨h1, -⟩ := q.rd hrd (ab_bad_n hn)
                simp only [if_pos hlen, if_neg h13, hdrop, if_pos h0, h1, if_pos hk]
              · cases hs
            · cases hs
          · rename_i h0
            simp only [if_pos hlen, if_neg h13, hdrop, if_neg h0]
            exact hs
        · rename_i k rest hdrop
          simp only [if_pos hlen, if_neg h13, hdrop]
          exact hs
        · cases hs
    · cases hs
theorem ab_rt_sim {M : ab_M} {it : ab_I} {st : List Value} {h g hF : ab_H} {r : Option Value} (hs : ab_rt M it st h = some (r, hF)) : hF = h ∧ ab_rt M it st g = some (r, g) := by
  unfold ab_rt at hs ⊢
  repeat' split at hs
  all_goals first | (cases hs; exact ⟨rfl, by simp [*]⟩) | cases hs
theorem ab_ex_sim {S : Nat → Prop} : ∀ (n : Nat) {d : Nat} {M : ab_M} {pc : Nat} {lv : ab_L} {st : List Value} {h g : ab_H} {r : Option Value} {hF : ab_H}, ab_ex ab_G n d M pc lv st h = some (r, hF) → ab_sim S h g → ∃ gF, ab_ex ab_G n d M pc lv st g = some (r, gF) ∧ ab_sm2 S hF g gF := by
  intro n
  induction n with
  | zero => intro d M pc lv st h g r hF hx; cases hx
  | succ n ih =>
    intro d M pc lv st h g r hF hx q
    unfold ab_ex at hx ⊢
    split at hx
    · cases hx
    · rename_i it hit
      split at hx
      · rename_i hk
        split at hx
        · cases hx
        · rename_i s' hs
          obtain ⟨pc', lv', st', h'⟩ := s'
          obtain ⟨g', h1, h2, h3⟩ := ab_sp_sim hs q
          obtain ⟨gF, h4, h5, h6⟩ := ih hx h2
          exact ⟨gF, by first | (simp only [h1]; exact h4) | (simp only [hk, h1]; exact h4), h5, fun a ha => (h6 a ha).trans (h3 a ha)⟩
      · rename_i hk
        obtain ⟨rfl, h2⟩ := ab_rt_sim (g := g) hx
        exact ⟨g, by first | exact h2 | (simp only [hk]; exact h2), q.same⟩
      · rename_i hk
        split at hx
        · cases hx
        · split at hx
          · cases hx
          · rename_i c hc
            split at hx
            · cases hx
            · rename_i rr hr
              obtain ⟨r', h'⟩ := rr
              have h1 := ab_cal_sim hc q
              obtain ⟨g', h2, h3, h4⟩ := ih hr q
              obtain ⟨gF, h5, h6, h7⟩ := ih hx h3
              exact ⟨gF, by first | (simp only [h1, h2]; exact h5) | (simp only [hk, h1, h2]; exact h5), h6, fun a ha => (h7 a ha).trans (h4 a ha)⟩
      · rename_i hk
        split at hx
        · cases hx
        · split at hx
          · cases hx
          · rename_i s' hs
            obtain ⟨pc', lv', st', h'⟩ := s'
            obtain ⟨g', h1, h2, h3⟩ := ab_sp_sim hs q
            obtain ⟨gF, h4, h5, h6⟩ := ih hx h2
            exact ⟨gF, by first | (simp only [h1]; exact h4) | (simp only [hk, h1]; exact h4), h5, fun a ha => (h6 a ha).trans (h3 a ha)⟩
      · rename_i hk0 hk1 hk2 hk4
        split at hx
        · cases hx
        · split at hx
          · cases hx
          · rename_i r0 hoi
            obtain ⟨gF, h5, h6, h7⟩ := ih hx q
            refine ⟨gF, ?_, h6, h7⟩
            first | exact h5 | (simp only [hoi]; exact h5)
theorem ab_ex_fuel {G : Nat → Option ab_M} : ∀ (n : Nat) {d : Nat} {M : ab_M} {pc : Nat} {lv : ab_L} {st : List Value} {h : ab_H} {q : Option Value × ab_H}, ab_ex G n d M pc lv st h = some q → ∀ k, ab_ex G (n + k) d M pc lv st h = some q := by
  intro n
  induction n with
  | zero => intro d M pc lv st h q hx; cases hx
  | succ n ih =>
    intro d M pc lv st h q hx k
    rw [show n + 1 + k = (n + k) + 1 by omega]
    unfold ab_ex at hx ⊢
    split at hx
    · cases hx
    · rename_i it hit
      split at hx
      · rename_i hk
        split at hx
        · cases hx
        · rename_i s' hs
          first | exact ih hx k | (simp only [hs]; exact ih hx k) | (simp only [hk, hs]; exact ih hx k)
      · rename_i hk
        first | exact hx | (simp only [hk]; exact hx)
      · rename_i hk
        split at hx
        · cases hx
        · split at hx
          · cases hx
          · rename_i c hc
            split at hx
            · cases hx
            · rename_i rr hr
              first | (simp only [ih hr k]; exact ih hx k) | (simp only [hc, ih hr k]; exact ih hx k) | (simp only [hk, hc, ih hr k]; exact ih hx k)
      · rename_i hk
        split at hx
        · cases hx
        · split at hx
          · cases hx
          · rename_i s' hs
            first | exact ih hx k | (simp only [hs]; exact ih hx k) | (simp only [hk, hs]; exact ih hx k)
      · rename_i hk0 hk1 hk2 hk4
        split at hx
        · cases hx
        · split at hx
          · cases hx
          · rename_i r0 hoi
            first | exact ih hx k | (simp only [hoi]; exact ih hx k)
