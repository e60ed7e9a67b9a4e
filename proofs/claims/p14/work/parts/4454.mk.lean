/-! ===== layMakes, whole ===== -/
theorem lk_cal_lc {h : ab_H} {rest ws : List Value} (hw : (rest.map fun v => v.category).sum ≤ 8) (h82 : ab_rd h 82 = some (.inr (10, ws))) {i ix : Nat} : ab_cal ab_G (ab_c (.invokevirtual i) 0 193 0 ix) (.ref 82 :: rest) h = some (ab_M_X10_layCubes, [.ref 82], rest) := ab_cal_v (As := []) rfl (show ab_G 193 = some ab_M_X10_layCubes from rfl) rfl h82 rfl rfl (by unfold ab_cok; rw [Bool.and_eq_true]; exact ⟨rfl, decide_eq_true hw⟩) rfl
/-- the rows' fields -/
def lk_R (ws : List Value) : Prop := ws[53]? = some (.ref 106) ∧ ws[54]? = some (.ref 107) ∧ ws[55]? = some (.ref 108) ∧ ws[56]? = some (.ref 109) ∧ 58 < ws.length
/-- the memory before -/
def lk_S (h : ab_H) (ws : List Value) : Prop := ∃ (cu : Nat → Int32) (co : Nat → Int64) (cl : Nat → Int32) (cv : Nat → Int64) (pt tr ll : Nat → Int32), lc_M h ws cu co cl ∧ mm h ws co cl cv pt tr ll ∧ (∀ i, i < 70 → 0 ≤ (tr i).toInt ∧ (tr i).toInt ≤ 729) ∧ ∀ k, k < 729 → 0 ≤ (cl k).toInt ∧ (cl k).toInt ≤ 6
def lk_F (h0 h : ab_H) : Prop := h.1 = h0.1 ∧ h.2.1 = h0.2.1 ∧ ∀ a, a ≠ 82 → (a < 103 ∨ 109 < a) → h.2.2 a = h0.2.2 a
def lk_W (ws0 ws : List Value) : Prop := ws.length = ws0.length ∧ ∀ k, k ≠ 49 → k ≠ 57 → k ≠ 58 → ws[k]? = ws0[k]?
/-- what layMakes leaves -/
def lk_P (h0 : ab_H) (ws0 : List Value) (on : Int64) (h' : ab_H) : Prop := ∃ (ws : List Value) (cu : Nat → Int32) (co : Nat → Int64) (cl : Nat → Int32) (n J l : Nat), lm_S h' ws co cl ∧ mw ws n on ∧ (∀ k, k < 729 → 0 ≤ (cl k).toInt ∧ (cl k).toInt ≤ 6) ∧ ab_rd h' 103 = some (.inl (0, 729, .inl cu)) ∧ lk_W ws0 ws ∧ lk_F h0 h' ∧ ws[57]? = some (.int (Int32.ofNat J)) ∧ ws[58]? = some (.int (Int32.ofNat l)) ∧ J ≤ 64 ∧ l ≤ 384 ∧ lm_c n co cl on J 0 l ∧ ∀ j, j < J → ¬ lm_c n co cl on j 0 1000
theorem lk_rd {h h' : ab_H} (h1 : h'.1 = h.1) {a : Nat} (h2 : h'.2.2 a = h.2.2 a) {e : ab_E} (hr : ab_rd h a = some e) : ab_rd h' a = some e := by
  unfold ab_rd at hr ⊢
  rw [h1, h2]
  exact hr
theorem lk_run {h0 : ab_H} {ws0 : List Value} {W : Nat} {on off : Int64} (hq : lc_Q ws0 W on off) (hR : lk_R ws0) (hW : W ≤ 6) (hon : ∀ l, l < 64 → mk_bt on l = true → l < 2 ^ W ∧ mk_bt off l = false) (S : lk_S h0 ws0) (d : Nat) : ab_go (d + 2) ab_M_X10_layMakes 0 [(0, .ref 82)] [] h0 (fun r h' => r = none ∧ lk_P h0 ws0 on h') := by
  obtain ⟨cu, co, cl, cv, pt, tr, ll, m, mq, hT, hcl⟩ := S
  refine go_s (pc' := 1) (lv' := [(0, .ref 82)]) (st' := [.ref 82]) (h' := h0) rfl rfl rfl ?_
  refine go_c rfl rfl (lk_cal_lc (rest := []) (show 0 ≤ 8 by decide) m.1) rfl (lc_run hq hW m hcl d) (fun r h' hr => ?_)
  obtain ⟨rfl, ws, cu', co', cl', n, hn, m', hw, hF, h49, hG⟩ := hr
  show ab_go (d + 2) ab_M_X10_layMakes 4 _ [] _ _
  have e : ∀ a, a ≠ 82 → a ≠ 103 → a ≠ 104 → a ≠ 105 → ∀ {e : ab_E}, ab_rd h0 a = some e → ab_rd h' a = some e := fun a a1 a2 a3 a4 _ hr => lk_rd hF.1 (hF.2.2 a a1 a2 a3 a4) hr
  have hq' := hw.q hq
  have mwn : mw ws n on := ⟨hn, hq'.2.1, h49, hq'.2.2.2.2.1, hq'.2.2.2.2.2.1, (hw.2 53 (by decide)).trans hR.1, (hw.2 54 (by decide)).trans hR.2.1, (hw.2 55 (by decide)).trans hR.2.2.1, (hw.2 56 (by decide)).trans hR.2.2.2.1⟩
  have hm : lm_S h' ws co' cl' := ⟨cv, pt, tr, ll, ⟨m'.1, m'.2.2.1, m'.2.2.2, e 106 (by decide) (by decide) (by decide) (by decide) mq.2.2.2.1, e 107 (by decide) (by decide) (by decide) (by decide) mq.2.2.2.2.1, e 108 (by decide) (by decide) (by decide) (by decide) mq.2.2.2.2.2.1, e 109 (by decide) (by decide) (by decide) (by decide) mq.2.2.2.2.2.2⟩, hT⟩
  refine lm_run mwn (by rw [hw.1]; exact hR.2.2.2.2) (fun k hk => hG.1 k (by omega)) (fun i hi ho => ?_) hm (fun h2 ws2 J l hJ hl mS hW2 hF2 h57 h58 hcan hmin => ⟨rfl, ws2, cu', co', cl', n, J, l, mS, hW2.mw mwn, hG.1, lk_rd hF2.1 (hF2.2.2 103 (by decide) (by decide)) m'.2.1, ⟨hW2.1.trans hw.1, fun k k1 k2 k3 => (hW2.2 k k2 k3).trans (hw.2 k k1)⟩, ⟨hF2.1.trans hF.1, hF2.2.1.trans hF.2.1, fun a a1 a2 => (hF2.2.2 a a1 (by omega)).trans (hF.2.2 a a1 (by omega) (by omega) (by omega))⟩, h57, h58, hJ, hl, hcan, hmin⟩) rfl
  obtain ⟨o1, o2⟩ := hon i hi ho
  obtain ⟨c, c1, c2, c3⟩ := lc_cover hW o1 ho o2
  obtain ⟨k, k1, k2⟩ := hG.2 c c1 c3
  exact ⟨k, k1, k2 i o1 c2 ho⟩
