/-! ===== far, ring, reach: the answers ===== -/
theorem RR.ways {b : Nat} {c c' : h_C} {m m' : h_M} (h : RR b c m) (n1 : eC [2038] c c') (n2 : eM [173, 88] m m') : RR b c' m' := h.scr [2038] [173, 88] n1 n2 rfl rfl
theorem s_fewest {b : Nat} {c : h_C} {m : h_M} (h : RR b c m) {w g g' : Nat} (hw : w < 3) (e1 : m 100 0 = (w : Int)) (hg : (g : Int) < m 3 w) (hg' : (g' : Int) < m 3 w) : ∃ r c' m', G_Works_fewestSlots w (g : Int) (g' : Int) c = some (r, c') ∧ (q_bv (G_Mo_spread (g : Int) m) fun m14 => p_gd ((0 : Int) ≤ (g' : Int) ∧ (g' : Int) < (40 : Int)) <| if 0 ≤ (m14 88 (g' : Int).toNat) then some ((m14 88 (g' : Int).toNat), m14) else some ((-9), m14)) = some (r, m') ∧ eC [2038] c c' ∧ eM [173, 88] m m' := by
  obtain ⟨g40, _⟩ := h.gr hw hg'
  obtain ⟨c', m', D, x1, x2, x3, x4, x5, x6, x7, x8⟩ := s_ways h hw e1 hg
  have h1 := x5 g' g40
  have h2 := x6 g' g40
  have h3 := x7 g'
  by_cases e : D g' = 1000000
  · rw [if_pos e] at h2
    refine ⟨-9, c', m', ?_, ?_, x3, x4⟩
    · unfold G_Works_fewestSlots
      rw [gd1 hw, x1, q_some, gd1 (by omega), Int.toNat_natCast, h1, if_neg (by omega)]
    · rw [x2, q_some, gd1 (by omega), Int.toNat_natCast, h2, if_neg (by decide)]
  · rw [if_neg e] at h2
    refine ⟨D g', c', m', ?_, ?_, x3, x4⟩
    · unfold G_Works_fewestSlots
      rw [gd1 hw, x1, q_some, gd1 (by omega), Int.toNat_natCast, h1, if_pos e]
    · rw [x2, q_some, gd1 (by omega), Int.toNat_natCast, h2, if_pos h3]
theorem pr_far {b : Nat} {c : h_C} {m : h_M} (h : RR b c m) (hE : c 607 0 0 = m 102 0) (v1 v2 : Int) : PR b (G_SW_far v1 v2 c) (G_Mo_far v1 v2 m) := by
  obtain ⟨w, hw, e1, e2⟩ := h.w
  have w3 : (0 : Int) ≤ (w : Int) ∧ (w : Int) < 3 := by omega
  unfold G_SW_far G_Mo_far
  rw [e2, gd1 w3, Int.toNat_natCast, s_noGear hw h.F e1, q_some]
  by_cases hg : 0 ≤ v1 ∧ v1 < m 3 w
  case neg =>
    refine ⟨-1, c, m, ?_, ?_, h, hE⟩
    · rw [s_gearOf0 hw h.F hg, q_some, if_pos rfl]
    · simp only [if_neg hg]
      rfl
  obtain ⟨g, rfl⟩ : ∃ g : Nat, v1 = (g : Int) := ⟨v1.toNat, by omega⟩
  rw [s_gearOf hw h.F hg.2, q_some, if_neg (by omega)]
  simp only [if_pos hg, ne_eq, not_true_eq_false, if_false]
  rw [s_noGear hw h.F e1, q_some]
  by_cases hg' : 0 ≤ v2 ∧ v2 < m 3 w
  case neg =>
    refine ⟨-1, c, m, ?_, ?_, h, hE⟩
    · rw [s_gearOf0 hw h.F hg', q_some, if_neg (by simp)]
    · simp only [if_neg hg', show ¬ ((1 : Int) = 0) by decide, if_false]
  obtain ⟨g', rfl⟩ : ∃ g' : Nat, v2 = (g' : Int) := ⟨v2.toNat, by omega⟩
  rw [s_gearOf hw h.F hg'.2, q_some, if_pos (by omega)]
  simp only [if_pos hg', if_true]
  by_cases e : (g : Int) = (g' : Int)
  · refine ⟨0, c, m, ?_, ?_, h, hE⟩
    · rw [if_neg (by simpa using e)]
    · rw [if_neg (by simpa using e)]
  · obtain ⟨r, c', m', x1, x2, x3, x4⟩ := s_fewest h hw e1 hg.2 hg'.2
    rw [if_pos (by simpa using e), if_pos (by simpa using e)]
    refine ⟨r, c', m', ?_, x2, h.ways x3 x4, by rw [x3 607 (by decide), x4 102 (by decide)]; exact hE⟩
    rw [x1, q_some2]
theorem pr_ring {b : Nat} {c : h_C} {m : h_M} (h : RR b c m) (hE : c 607 0 0 = m 102 0) (v1 : Int) : PR b (G_SW_ring v1 c) (G_Mo_ring v1 m) := by
  obtain ⟨w, hw, e1, e2⟩ := h.w
  have w3 : (0 : Int) ≤ (w : Int) ∧ (w : Int) < 3 := by omega
  unfold G_SW_ring G_Mo_ring
  rw [e2, gd1 w3, Int.toNat_natCast, s_noGear hw h.F e1, q_some]
  by_cases hg : 0 ≤ v1 ∧ v1 < m 3 w
  case neg =>
    refine ⟨-1, c, m, ?_, ?_, h, hE⟩
    · rw [s_gearOf0 hw h.F hg, q_some, if_neg (by simp)]
    · simp only [if_neg hg, show ¬ ((1 : Int) = 0) by decide, if_false]
  obtain ⟨g, rfl⟩ : ∃ g : Nat, v1 = (g : Int) := ⟨v1.toNat, by omega⟩
  obtain ⟨r, c', m', x1, x2, x3, x4⟩ := s_fewest h hw e1 hg.2 hg.2
  refine ⟨r, c', m', ?_, ?_, h.ways x3 x4, by rw [x3 607 (by decide), x4 102 (by decide)]; exact hE⟩
  · rw [s_gearOf hw h.F hg.2, q_some, if_pos (by omega), x1, q_some2]
  · simp only [if_pos hg, if_true]
    exact x2
/-- the gears reached, as bits -/
theorem l_reachC {w : Nat} (hw : w < 3) {c : h_C} {D : Nat → Int} {n : Nat} (n40 : n ≤ 40) (e2 : c 5000 0 0 = (w : Int)) (f1 : c 202 w 0 = (n : Int)) (hD : cD c w D) : ∀ (d g fu : Nat) (v : Nat), g + d = n → d < fu → v < 2 ^ g → ∃ v' : Nat, GO_SW_reach_26 fu (v : Int) (g : Int) c = some ((v' : Int), c) ∧ v' < 2 ^ n ∧ (∀ j, v'.testBit j = (v.testBit j || (decide (g ≤ j ∧ j < n ∧ D j ≠ 1000000)))) := by
  intro d
  induction d with
  | zero =>
    intro g fu v hd hf hv
    obtain ⟨fu, rfl⟩ : ∃ g, fu = g + 1 := ⟨fu - 1, by omega⟩
    have eg : g = n := by omega
    subst eg
    refine ⟨v, ?_, hv, fun j => ?_⟩
    · show GL_SW_reach_26 _ _ _ c = _
      unfold GL_SW_reach_26
      rw [e2, gd1 (by omega), Int.toNat_natCast, f1, if_pos (by omega)]
    · rw [decide_eq_false (by omega), Bool.or_false]
  | succ d ih =>
    intro g fu v hd hf hv
    obtain ⟨fu, rfl⟩ : ∃ g, fu = g + 1 := ⟨fu - 1, by omega⟩
    have nC : ∀ (x : Int), GB_SW_reach_61 (GO_SW_reach_26 fu) x (g : Int) c = GO_SW_reach_26 fu x ((g + 1 : Nat) : Int) c := fun x => by
      unfold GB_SW_reach_61
      rw [p_w1 (by omega) (by omega), bi1]
      rfl
    have p1 : (2 : Nat) ^ (g + 1) ≤ 2 ^ 40 := Nat.pow_le_pow_right (by decide) (by omega)
    have p2 : (2 : Nat) ^ g < 2 ^ (g + 1) := Nat.pow_lt_pow_right (by decide) (by omega)
    have p3 : (2 : Nat) ^ 40 < 2 ^ 62 := by decide
    have hC : ∀ X, (if D g = 1000000 then GO_SW_reach_26 fu (v : Int) ((g + 1 : Nat) : Int) c else GO_SW_reach_26 fu ((v ||| 2 ^ g : Nat) : Int) ((g + 1 : Nat) : Int) c) = X → GO_SW_reach_26 (fu + 1) (v : Int) (g : Int) c = X := fun X hX => by
      show GL_SW_reach_26 _ _ _ c = _
      unfold GL_SW_reach_26
      rw [e2, gd1 (by omega), Int.toNat_natCast, f1, if_neg (by omega), gd1 (by omega), Int.toNat_natCast, hD g (by omega), show p_shl6 1 (g : Int) = ((2 ^ g : Nat) : Int) from shl6_1 ⟨g, by omega⟩, or6_n (by omega) (by omega)]
      simp only [bi1, nC]
      exact hX
    by_cases e : D g = 1000000
    · obtain ⟨v', y1, y2, y3⟩ := ih (g + 1) fu v (by omega) (by omega) (by omega)
      refine ⟨v', hC _ (by rw [if_pos e]; exact y1), y2, fun j => ?_⟩
      rw [y3 j]
      congr 1
      by_cases ej : j = g
      · subst ej
        rw [decide_eq_false (by omega), decide_eq_false (fun z => z.2.2 e)]
      · exact decide_eq_decide.mpr ⟨fun z => ⟨by omega, z.2⟩, fun z => ⟨by omega, z.2⟩⟩
    · have hv' : v ||| 2 ^ g < 2 ^ (g + 1) := Nat.or_lt_two_pow (by omega) p2
      obtain ⟨v', y1, y2, y3⟩ := ih (g + 1) fu (v ||| 2 ^ g) (by omega) (by omega) hv'
      refine ⟨v', hC _ (by rw [if_neg e]; exact y1), y2, fun j => ?_⟩
      rw [y3 j, Nat.testBit_or, Nat.testBit_two_pow]
      by_cases ej : g = j
      · subst ej
        rw [decide_eq_true rfl, decide_eq_true (show g ≤ g ∧ g < n ∧ D g ≠ 1000000 from ⟨by omega, by omega, e⟩)]
        simp
      · rw [decide_eq_false ej, Bool.or_false]
        congr 1
        exact decide_eq_decide.mpr ⟨fun z => ⟨by omega, z.2⟩, fun z => ⟨by omega, z.2⟩⟩
theorem l_reachM {m : h_M} {D : Nat → Int} (h0 : ∀ r, 0 ≤ D r) (hD : mD m D) : ∀ (d g fu : Nat) (v : Nat), g + d = 40 → d < fu → v < 2 ^ g → ∃ v' : Nat, GO_Mo_reach_20 fu (v : Int) (g : Int) m = some ((v' : Int), m) ∧ (∀ j, v'.testBit j = (v.testBit j || (decide (g ≤ j ∧ j < 40 ∧ D j ≠ 1000000)))) := by
  intro d
  induction d with
  | zero =>
    intro g fu v hd hf hv
    obtain ⟨fu, rfl⟩ : ∃ g, fu = g + 1 := ⟨fu - 1, by omega⟩
    refine ⟨v, ?_, fun j => ?_⟩
    · show GL_Mo_reach_20 _ _ _ m = _
      unfold GL_Mo_reach_20
      rw [if_pos (by omega)]
    · rw [decide_eq_false (by omega), Bool.or_false]
  | succ d ih =>
    intro g fu v hd hf hv
    obtain ⟨fu, rfl⟩ : ∃ g, fu = g + 1 := ⟨fu - 1, by omega⟩
    have p1 : (2 : Nat) ^ (g + 1) ≤ 2 ^ 40 := Nat.pow_le_pow_right (by decide) (by omega)
    have p2 : (2 : Nat) ^ g < 2 ^ (g + 1) := Nat.pow_lt_pow_right (by decide) (by omega)
    have p3 : (2 : Nat) ^ 40 < 2 ^ 62 := by decide
    have nM : ∀ (x : Nat), x < 2 ^ 62 → GB_Mo_reach_46 (GO_Mo_reach_20 fu) (g : Int) (x : Int) (v : Int) m = GO_Mo_reach_20 fu ((v ||| x : Nat) : Int) ((g + 1 : Nat) : Int) m := fun x hx => by
      unfold GB_Mo_reach_46
      rw [or6_n (by omega) hx, p_w1 (by omega) (by omega), bi1, bi1]
      rfl
    have h88 := hD g (by omega)
    have hM : ∀ X, (if D g = 1000000 then GO_Mo_reach_20 fu (v : Int) ((g + 1 : Nat) : Int) m else GO_Mo_reach_20 fu ((v ||| 2 ^ g : Nat) : Int) ((g + 1 : Nat) : Int) m) = X → GO_Mo_reach_20 (fu + 1) (v : Int) (g : Int) m = X := fun X hX => by
      show GL_Mo_reach_20 _ _ _ m = _
      unfold GL_Mo_reach_20
      rw [if_neg (by omega), gd1 (by omega), Int.toNat_natCast, show p_shl6 1 (g : Int) = ((2 ^ g : Nat) : Int) from shl6_1 ⟨g, by omega⟩, show (0 : Int) = ((0 : Nat) : Int) from rfl, nM 0 (by decide), nM (2 ^ g) (by omega), Nat.or_zero, ← hX]
      have := h0 g
      by_cases e : D g = 1000000
      · rw [if_pos e] at h88
        rw [if_pos e, if_pos (by omega)]
      · rw [if_neg e] at h88
        rw [if_neg e, if_neg (by omega)]
    by_cases e : D g = 1000000
    · obtain ⟨v', y1, y3⟩ := ih (g + 1) fu v (by omega) (by omega) (by omega)
      refine ⟨v', hM _ (by rw [if_pos e]; exact y1), fun j => ?_⟩
      rw [y3 j]
      congr 1
      by_cases ej : j = g
      · subst ej
        rw [decide_eq_false (by omega), decide_eq_false (fun z => z.2.2 e)]
      · exact decide_eq_decide.mpr ⟨fun z => ⟨by omega, z.2⟩, fun z => ⟨by omega, z.2⟩⟩
    · have hv' : v ||| 2 ^ g < 2 ^ (g + 1) := Nat.or_lt_two_pow (by omega) p2
      obtain ⟨v', y1, y3⟩ := ih (g + 1) fu (v ||| 2 ^ g) (by omega) (by omega) hv'
      refine ⟨v', hM _ (by rw [if_neg e]; exact y1), fun j => ?_⟩
      rw [y3 j, Nat.testBit_or, Nat.testBit_two_pow]
      by_cases ej : g = j
      · subst ej
        rw [decide_eq_true rfl, decide_eq_true (show g ≤ g ∧ g < 40 ∧ D g ≠ 1000000 from ⟨by omega, by omega, e⟩)]
        simp
      · rw [decide_eq_false ej, Bool.or_false]
        congr 1
        exact decide_eq_decide.mpr ⟨fun z => ⟨by omega, z.2⟩, fun z => ⟨by omega, z.2⟩⟩
theorem pr_reach {b : Nat} {c : h_C} {m : h_M} (h : RR b c m) (hE : c 607 0 0 = m 102 0) (v1 : Int) : PR b (G_SW_reach v1 c) (G_Mo_reach v1 m) := by
  obtain ⟨w, hw, e1, e2⟩ := h.w
  have w3 : (0 : Int) ≤ (w : Int) ∧ (w : Int) < 3 := by omega
  have f1 := h.F.1 w
  unfold G_SW_reach G_Mo_reach
  rw [e2, gd1 w3, Int.toNat_natCast, s_noGear hw h.F e1, q_some]
  by_cases hg : 0 ≤ v1 ∧ v1 < m 3 w
  case neg =>
    refine ⟨0, c, m, ?_, ?_, h, hE⟩
    · rw [s_gearOf0 hw h.F hg, q_some, if_neg (by simp)]
    · simp only [if_neg hg, show ¬ ((1 : Int) = 0) by decide, if_false]
  obtain ⟨g, rfl⟩ : ∃ g : Nat, v1 = (g : Int) := ⟨v1.toNat, by omega⟩
  obtain ⟨n, hn⟩ : ∃ n : Nat, m 3 w = (n : Int) := ⟨(m 3 w).toNat, by omega⟩
  obtain ⟨c', m', D, x1, x2, x3, x4, x5, x6, x7, x8⟩ := s_ways h hw e1 hg.2
  obtain ⟨vc, y1, y2, y3⟩ := l_reachC hw (n := n) (by omega) (by rw [x3 5000 (by decide)]; exact e2) (by rw [x3 202 (by decide), f1.1]; exact hn) x5 n 0 3000 0 (by omega) (by omega) (by decide)
  obtain ⟨vm, z1, z3⟩ := l_reachM x7 x6 40 0 3000 0 (by omega) (by omega) (by decide)
  have ev : vm = vc := by
    apply Nat.eq_of_testBit_eq
    intro j
    have ed : decide (0 ≤ j ∧ j < 40 ∧ D j ≠ 1000000) = decide (0 ≤ j ∧ j < n ∧ D j ≠ 1000000) := by
      refine decide_eq_decide.mpr ⟨fun z => ⟨z.1, ?_, z.2.2⟩, fun z => ⟨z.1, by omega, z.2.2⟩⟩
      by_cases e : j < n
      · exact e
      · exact absurd (x8 j (by omega)) z.2.2
    rw [y3 j, z3 j, ed]
  refine ⟨(vc : Int), c', m', ?_, ?_, h.ways x3 x4, by rw [x3 607 (by decide), x4 102 (by decide)]; exact hE⟩
  · rw [s_gearOf hw h.F hg.2, q_some, if_pos (by omega), x1, q_some]
    exact y1
  · simp only [if_pos hg, if_true]
    rw [x2, q_some, ← ev]
    exact z1
