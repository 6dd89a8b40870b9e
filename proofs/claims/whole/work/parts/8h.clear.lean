/-! ===== clear ===== -/
def HO (c : h_C) (m : h_M) (w g0 : Nat) (v2 v3 : Int) (x : Option Int) (y : Option (Int × h_M)) : Prop := (∃ g' : Nat, (g' : Int) < m 3 w ∧ g' ≠ g0 ∧ m 5 (40 * w + g') = 8 ∧ c 2012 (40 * w + g' + 1) 0 = 0 ∧ x = some (g' : Int) ∧ y = (q_bv (G_Mo_leaves v3 m) fun m23 => q_bv (G_Mo_enters v3 (g' : Int) m23) fun m26 => p_gd ((0 : Int) ≤ v3 ∧ v3 < (2001 : Int)) <| p_bi (wm m26 30 (v3 : Int).toNat (-8)) fun m28 => p_gd ((0 : Int) ≤ v2 ∧ v2 < (120 : Int)) <| p_bi (wm m28 16 (v2 : Int).toNat 0) fun m31 => q_bd (G_Mo_well (g' : Int) m31) fun r35 m36 => some (r35, m36))) ∨ (x = some (-1) ∧ y = G_Mo_refused (-4) m)
theorem l_hold {b : Nat} {c : h_C} {m : h_M} (h : RR b c m) {w : Nat} (hw : w < 3) (e1 : m 100 0 = (w : Int)) (g0 : Nat) (v2 v3 : Int) : ∀ (d g fu : Nat), ((g + d : Nat) : Int) = m 3 w → d < fu → HO c m w g0 v2 v3 (GO_Works_freeHoldBut_2 fu w (g0 : Int) (g : Int) c) (GO_Mo_clear_79 fu (g0 : Int) v2 v3 (g : Int) m) := by
  have w3 : (0 : Int) ≤ (w : Int) ∧ (w : Int) < 3 := by omega
  have f1 := (h.F.1 w)
  intro d
  induction d with
  | zero =>
    intro g fu hd hf
    obtain ⟨fu, rfl⟩ : ∃ g, fu = g + 1 := ⟨fu - 1, by omega⟩
    refine Or.inr ⟨?_, ?_⟩
    · show GL_Works_freeHoldBut_2 _ _ _ _ c = _
      unfold GL_Works_freeHoldBut_2
      rw [gd1 hw, f1.1, if_pos (by omega)]
    · show GL_Mo_clear_79 _ _ _ _ _ m = _
      unfold GL_Mo_clear_79
      rw [e1, gd1 w3, Int.toNat_natCast, if_pos (by omega), q_eta]
  | succ d ih =>
    intro g fu hd hf
    obtain ⟨fu, rfl⟩ : ∃ g, fu = g + 1 := ⟨fu - 1, by omega⟩
    have hg : (g : Int) < m 3 w := by omega
    obtain ⟨g40, i120, hj, eK, k0, k10, eL, l0, l8, _⟩ := h.gr hw hg
    have nC : GB_Works_freeHoldBut_49 (GO_Works_freeHoldBut_2 fu) w (g0 : Int) (g : Int) c = GO_Works_freeHoldBut_2 fu w (g0 : Int) ((g + 1 : Nat) : Int) c := by
      unfold GB_Works_freeHoldBut_49
      rw [p_w1 (by omega) (by omega), bi1]
      rfl
    have nM : GB_Mo_clear_166 (GO_Mo_clear_79 fu) (g0 : Int) v2 v3 (g : Int) m = GO_Mo_clear_79 fu (g0 : Int) v2 v3 ((g + 1 : Nat) : Int) m := by
      unfold GB_Mo_clear_166
      rw [p_w1 (by omega) (by omega), bi1]
      rfl
    have hC : ∀ X, (if g = g0 then GO_Works_freeHoldBut_2 fu w (g0 : Int) ((g + 1 : Nat) : Int) c else if m 5 (40 * w + g) ≠ 8 then GO_Works_freeHoldBut_2 fu w (g0 : Int) ((g + 1 : Nat) : Int) c else if (if c 2012 (40 * w + g + 1) 0 = 0 then (1 : Int) else 0) = 0 then GO_Works_freeHoldBut_2 fu w (g0 : Int) ((g + 1 : Nat) : Int) c else some (g : Int)) = X → GO_Works_freeHoldBut_2 (fu + 1) w (g0 : Int) (g : Int) c = X := fun X hX => by
      show GL_Works_freeHoldBut_2 _ _ _ _ c = _
      unfold GL_Works_freeHoldBut_2
      rw [gd1 hw, f1.1, if_neg (by omega), gd1 (by omega), Int.toNat_natCast, eK, s_cFree hj, q_some, nC, ← hX]
      by_cases z : g = g0
      · rw [if_pos z, if_pos (by omega)]
      · rw [if_neg z, if_neg (by omega)]
    have hM : ∀ X, (if g = g0 then GO_Mo_clear_79 fu (g0 : Int) v2 v3 ((g + 1 : Nat) : Int) m else if m 5 (40 * w + g) ≠ 8 then GO_Mo_clear_79 fu (g0 : Int) v2 v3 ((g + 1 : Nat) : Int) m else if m 22 (8 * (40 * w + g) + 0) ≠ 0 then GO_Mo_clear_79 fu (g0 : Int) v2 v3 ((g + 1 : Nat) : Int) m else q_bv (G_Mo_leaves v3 m) fun m23 => q_bv (G_Mo_enters v3 (g : Int) m23) fun m26 => p_gd ((0 : Int) ≤ v3 ∧ v3 < (2001 : Int)) <| p_bi (wm m26 30 (v3 : Int).toNat (-8)) fun m28 => p_gd ((0 : Int) ≤ v2 ∧ v2 < (120 : Int)) <| p_bi (wm m28 16 (v2 : Int).toNat 0) fun m31 => q_bd (G_Mo_well (g : Int) m31) fun r35 m36 => some (r35, m36)) = X → GO_Mo_clear_79 (fu + 1) (g0 : Int) v2 v3 (g : Int) m = X := fun X hX => by
      show GL_Mo_clear_79 _ _ _ _ _ m = _
      unfold GL_Mo_clear_79
      rw [e1, gd1 w3, Int.toNat_natCast, if_neg (by omega), s_g hw e1 g40, q_some, gd1 (by omega), Int.toNat_natCast, q_some, p_w1 (x := 8 * ((40 * w + g : Nat) : Int)) (by omega) (by omega), gd1 (by omega), show (8 * ((40 * w + g : Nat) : Int)).toNat = 8 * (40 * w + g) + 0 by omega, nM, ← hX]
      by_cases z : g = g0
      · rw [if_pos z, if_pos (by omega)]
      · rw [if_neg z, if_neg (by omega)]
    have nx := ih (g + 1) fu (by omega) (by omega)
    have go : GO_Works_freeHoldBut_2 (fu + 1) w (g0 : Int) (g : Int) c = GO_Works_freeHoldBut_2 fu w (g0 : Int) ((g + 1 : Nat) : Int) c → GO_Mo_clear_79 (fu + 1) (g0 : Int) v2 v3 (g : Int) m = GO_Mo_clear_79 fu (g0 : Int) v2 v3 ((g + 1 : Nat) : Int) m → HO c m w g0 v2 v3 (GO_Works_freeHoldBut_2 (fu + 1) w (g0 : Int) (g : Int) c) (GO_Mo_clear_79 (fu + 1) (g0 : Int) v2 v3 (g : Int) m) := fun a b => by rw [a, b]; exact nx
    by_cases z1 : g = g0
    · exact go (hC _ (by rw [if_pos z1])) (hM _ (by rw [if_pos z1]))
    by_cases z2 : m 5 (40 * w + g) = 8
    case neg => exact go (hC _ (by rw [if_neg z1, if_pos z2])) (hM _ (by rw [if_neg z1, if_pos z2]))
    have hsl := h.P.2.1 w g 0 hw g40 (by omega)
    by_cases z3 : c 2012 (40 * w + g + 1) 0 = 0
    · refine Or.inl ⟨g, hg, z1, z2, z3, hC _ ?_, hM _ ?_⟩
      · rw [if_neg z1, if_neg (by omega)]
        simp only [if_pos z3]
        rfl
      · have : m 22 (8 * (40 * w + g) + 0) = 0 := by
          rcases hsl with ⟨_, z⟩ | ⟨pl, y1, y2, y3, _⟩
          · exact z
          · omega
        rw [if_neg z1, if_neg (by omega), if_neg (by omega)]
    · refine go (hC _ ?_) (hM _ ?_)
      · rw [if_neg z1, if_neg (by omega)]
        simp only [if_neg z3]
        rfl
      · have := hsl.pos.1.mpr z3
        rw [if_neg z1, if_neg (by omega), if_pos (by omega)]
theorem pr_clear {b : Nat} (hb : b < 2000000000) {c : h_C} {m : h_M} (h : RR b c m) (hE : c 607 0 0 = m 102 0) (v1 : Int) : PR (b + 1) (G_SW_clear v1 c) (G_Mo_clear v1 m) := by
  have h' := h.more (Nat.le_succ b)
  have n2 := h.N.2.2.1
  obtain ⟨w, hw, e1, e2⟩ := h.w
  have w3 : (0 : Int) ≤ (w : Int) ∧ (w : Int) < 3 := by omega
  by_cases hg : 0 ≤ v1 ∧ v1 < m 3 w
  case neg =>
    obtain ⟨r, c', m', x1, x2, x3⟩ := pr_refuse h' (-1) (by omega)
    refine ⟨r, c', m', ?_, ?_, x3⟩
    · unfold G_SW_clear
      simp only [e2, Int.toNat_natCast, q_eta, s_gearOf0 hw h.F hg, q_some]
      exact gdT (by omega) (ifF (by simp) x1)
    · unfold G_Mo_clear
      simp only [s_noGear hw h.F e1, if_neg hg, q_some, q_eta]
      exact ifF (by decide) x2
  obtain ⟨g, rfl⟩ : ∃ g : Nat, v1 = (g : Int) := ⟨v1.toNat, by omega⟩
  obtain ⟨g40, i120, hj, eK, k0, k10, eL, l0, l8, lt, ln⟩ := h.gr hw hg.2
  have e16 : c 8 (40 * w + g + 1) 0 = m 16 (40 * w + g) := (h.G.1 (40 * w + g)).1.2.2.1
  unfold G_SW_clear G_Mo_clear GB_SW_clear_56 GB_Mo_clear_69
  simp only [e2, Int.toNat_natCast, gd1 w3, q_eta, s_gearOf hw h.F hg.2, s_noGear hw h.F e1, if_pos hg, q_some, show ¬ (40 * w + g + 1 = 0) by omega, ne_eq, not_false_eq_true, if_true, s_g hw e1 g40, gd1 hj, gd1 (show (0 : Int) ≤ ((40 * w + g : Nat) : Int) ∧ ((40 * w + g : Nat) : Int) < 120 by omega), s_cTaker hj, s_mTaker, s_cJam hj, s_mJam i120, eK, e16]
  by_cases c4 : m 5 (40 * w + g) < 9
  case neg =>
    simp only [if_neg (show ¬ (0 ≤ m 5 (40 * w + g) ∧ m 5 (40 * w + g) < 9) by omega), if_neg c4, not_true_eq_false, if_false]
    exact pr_fault h' _ _ (by omega) (by omega) (by omega) hE
  obtain ⟨k, k8, ek, il⟩ := s_inLast h hw hg.2 c4
  simp only [if_pos (show 0 ≤ m 5 (40 * w + g) ∧ m 5 (40 * w + g) < 9 by omega), if_pos c4, show ¬ ((1 : Int) = 0) by decide, not_false_eq_true, if_true, il, ek, p_w1 (x := 8 * ((40 * w + g : Nat) : Int)) (by omega) (by omega), p_w1 (x := 8 * ((40 * w + g : Nat) : Int) + ((k + 1 : Nat) : Int)) (by omega) (by omega), p_w1 (x := 8 * ((40 * w + g : Nat) : Int) + ((k + 1 : Nat) : Int) - 1) (by omega) (by omega), gd1 (show (0 : Int) ≤ 8 * ((40 * w + g : Nat) : Int) + ((k + 1 : Nat) : Int) - 1 ∧ 8 * ((40 * w + g : Nat) : Int) + ((k + 1 : Nat) : Int) - 1 < 960 by omega), show (8 * ((40 * w + g : Nat) : Int) + ((k + 1 : Nat) : Int) - 1).toNat = 8 * (40 * w + g) + k by omega, bi1]
  by_cases c5 : 8 ≤ m 16 (40 * w + g)
  case neg =>
    simp only [if_neg (show ¬ (8 ≤ m 16 (40 * w + g) ∧ 0 ≤ m 5 (40 * w + g) ∧ m 5 (40 * w + g) < 9) by omega), if_neg (show ¬ (m 5 (40 * w + g) < 9 ∧ 8 ≤ m 16 (40 * w + g)) by omega), if_true]
    rcases s_inSlot h hw hg.2 k8 with ⟨z1, z2, z3⟩ | ⟨pl, q, p1, p30, z1, z2, z3, z4, z5, z6, hp, z7⟩
    · rw [z3, q_some]
      exact pr_refuse h' _ (by omega) hE
    · rw [z7, q_some]
      exact pr_refuse h' _ (by omega) hE
  simp only [if_pos (show 8 ≤ m 16 (40 * w + g) ∧ 0 ≤ m 5 (40 * w + g) ∧ m 5 (40 * w + g) < 9 by omega), if_pos (show m 5 (40 * w + g) < 9 ∧ 8 ≤ m 16 (40 * w + g) by omega), show ¬ ((1 : Int) = 0) by decide, if_false]
  rcases s_inSlot h hw hg.2 k8 with ⟨z1, z2, z3⟩ | ⟨pl, q, p1, p30, z1, z2, z3, z4, z5, z6, hp, z7⟩
  · rw [z3, q_some, z2, if_neg (by simp), if_neg (by simp)]
    exact pr_refuse h' _ (by omega) hE
  obtain ⟨⟨⟨q1, q2, q3, q4⟩, _⟩, _⟩ := id hp
  rw [z7, q_some, z2, if_pos (by omega), if_pos (by omega)]
  obtain ⟨n3, hn3⟩ : ∃ n3 : Nat, m 3 w = (n3 : Int) := ⟨(m 3 w).toNat, by omega⟩
  have g3 := (h.F.1 w).2.2
  unfold G_Works_freeHoldBut
  rcases l_hold h hw e1 g ((40 * w + g : Nat) : Int) (q : Int) n3 0 3000 (by rw [hn3]; congr 1; omega) (by omega) with ⟨g', y1, y2, y3, y4, y5, y6⟩ | ⟨y1, y2⟩
  · obtain ⟨c2, m1, m2, x1, x2, x3, x4, x5, x6⟩ := h.carry hb hw e1 p1 p30 z3 hp y1 (by omega) y4
    have ep2 : c2 101 (31 * w + pl) 0 = (q : Int) := by rw [x5 101 (by decide)]; exact z3
    have r1 := x4.p104 hw p1 p30 ep2 (x4.po hw p1 p30 q1 ep2) (-8) (by omega)
    have r2 := r1.f8 (40 * w + g) 0
    rw [show GO_Works_freeHoldBut_2 3000 w (g : Int) 0 c = _ from y5, q_some, if_pos (by omega), x1, q_some, gd1 (show vP (31 * w + pl) from ⟨by omega, by omega⟩), show GO_Mo_clear_79 3000 (g : Int) ((40 * w + g : Nat) : Int) (q : Int) 0 m = _ from y6, x2, q_some, x3, q_some, gd1 (by omega), Int.toNat_natCast, bi1, gd1 (by omega), Int.toNat_natCast, bi1, q_eta]
    exact pr_done r2 _ (by rw [wc_ne (by decide), wc_ne (by decide), wm_at, if_neg (by omega), wm_at, if_neg (by omega), x5 607 (by decide), x6 102 (by decide)]; exact hE)
  · rw [show GO_Works_freeHoldBut_2 3000 w (g : Int) 0 c = _ from y1, q_some, if_neg (by simp), show GO_Mo_clear_79 3000 (g : Int) ((40 * w + g : Nat) : Int) (q : Int) 0 m = _ from y2]
    exact pr_refuse h' _ (by omega) hE
