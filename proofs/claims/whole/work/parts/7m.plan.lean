/-! ===== plans ===== -/
theorem ZZ.plan {b : Nat} {c : h_C} {m : h_M} {w : Nat} {F L : Int} (h : ZZ b c m w F L) {k : Nat} (hk : (k : Int) < m 56 w) : ∃ r f c' m', G_Step_planFault (16 * w + k) (m 57 (16 * w + k)) c = some (r, c') ∧ G_Mo_planFault ((16 * w + k : Nat) : Int) m = some (f, m') ∧ ((f = 0 ∧ r = 0) ∨ ((1 ≤ f ∧ f ≤ 6) ∧ r = -10 - f)) ∧ ZZ b c' m' w F L ∧ eC [14, 6, 7] c c' ∧ eM [13, 10, 14] m m' := by
  obtain ⟨hR, ⟨hw, e1, e2, e3, e4, e5⟩, _⟩ := id h
  have w3 : (0 : Int) ≤ (w : Int) ∧ (w : Int) < 3 := by omega
  obtain ⟨q1, q2, q3, qk⟩ := hR.Q w hw
  obtain ⟨p1, p2, p3, pv⟩ := qk k (by omega) hk
  have hvq : vQ (16 * w + k) := by show 16 * w + k < 48; omega
  have v1 := pv 1 (by omega)
  have v2 := pv 2 (by omega)
  have v3 := pv 3 (by omega)
  have i1 : p_w (p_w (4 * ((16 * w + k : Nat) : Int)) + 1) = ((64 * w + 4 * k + 1 : Nat) : Int) := by rw [p_w1 (x := 4 * ((16 * w + k : Nat) : Int)) (by omega) (by omega), p_w1 (by omega) (by omega)]; omega
  have i2 : p_w (p_w (4 * ((16 * w + k : Nat) : Int)) + 2) = ((64 * w + 4 * k + 2 : Nat) : Int) := by rw [p_w1 (x := 4 * ((16 * w + k : Nat) : Int)) (by omega) (by omega), p_w1 (by omega) (by omega)]; omega
  have i3 : p_w (p_w (4 * ((16 * w + k : Nat) : Int)) + 3) = ((64 * w + 4 * k + 3 : Nat) : Int) := by rw [p_w1 (x := 4 * ((16 * w + k : Nat) : Int)) (by omega) (by omega), p_w1 (by omega) (by omega)]; omega
  have bad : ∀ (f r : Int), 1 ≤ f ∧ f ≤ 6 → r = -10 - f → ∃ r' f' c' m', some (r, c) = some (r', c') ∧ some (f, m) = some (f', m') ∧ ((f' = 0 ∧ r' = 0) ∨ ((1 ≤ f' ∧ f' ≤ 6) ∧ r' = -10 - f')) ∧ ZZ b c' m' w F L ∧ eC [14, 6, 7] c c' ∧ eM [13, 10, 14] m m' := fun f r hf e => ⟨r, f, c, m, rfl, rfl, Or.inr ⟨hf, e⟩, h, eC.rf _ _, eM.rf _ _⟩
  unfold G_Step_planFault G_Mo_planFault
  rw [gd1 (show (0 : Int) ≤ ((16 * w + k : Nat) : Int) ∧ ((16 * w + k : Nat) : Int) < 48 by omega), Int.toNat_natCast, bi1]
  by_cases l2 : m 57 (16 * w + k) < 2
  · rw [if_pos l2, if_neg (show ¬ 2 ≤ m 57 (16 * w + k) by omega)]
    exact bad 3 (-13) (by omega) (by decide)
  rw [if_neg l2, gd1 hvq, gd1 (by decide), show (1 : Int).toNat = 1 from rfl, v1, if_pos (show 2 ≤ m 57 (16 * w + k) by omega), i1, gd1 (show (0 : Int) ≤ ((64 * w + 4 * k + 1 : Nat) : Int) ∧ ((64 * w + 4 * k + 1 : Nat) : Int) < 192 by omega), Int.toNat_natCast, bi1, s_beyond, q_some]
  generalize m 58 (64 * w + 4 * k + 1) = x1
  by_cases a0 : 0 ≤ x1 ∧ x1 ≤ 2
  case neg =>
    rw [if_neg a0, if_pos (show (1 : Int) ≠ 0 by decide)]
    by_cases a1 : x1 < 0
    · rw [if_pos a1]; exact bad 3 (-13) (by omega) (by decide)
    · rw [if_neg a1, if_neg (show ¬ x1 ≤ 2 by omega)]; exact bad 3 (-13) (by omega) (by decide)
  rw [if_pos a0, if_neg (show ¬ ((0 : Int) ≠ 0) by decide), if_neg (show ¬ x1 < 0 by omega), if_pos (show x1 ≤ 2 by omega)]
  by_cases l3 : m 57 (16 * w + k) < 3
  · rw [if_pos l3, if_neg (show ¬ 3 ≤ m 57 (16 * w + k) by omega)]
    exact bad 3 (-13) (by omega) (by decide)
  rw [if_neg l3, gd1 (by decide), show (2 : Int).toNat = 2 from rfl, v2, if_pos (show 3 ≤ m 57 (16 * w + k) by omega), i2, gd1 (show (0 : Int) ≤ ((64 * w + 4 * k + 2 : Nat) : Int) ∧ ((64 * w + 4 * k + 2 : Nat) : Int) < 192 by omega), Int.toNat_natCast, bi1, s_beyond, q_some]
  generalize m 58 (64 * w + 4 * k + 2) = x2
  by_cases g0 : 0 ≤ x2 ∧ x2 ≤ 39
  case neg =>
    rw [if_neg g0, if_neg (show ¬ ((1 : Int) = 0) by decide)]
    by_cases a1 : x2 < 0
    · rw [if_pos a1]; exact bad 3 (-13) (by omega) (by decide)
    · rw [if_neg a1, if_neg (show ¬ x2 < 40 by omega)]; exact bad 3 (-13) (by omega) (by decide)
  rw [if_pos g0, if_pos rfl, if_neg (show ¬ x2 < 0 by omega), if_pos (show x2 < 40 by omega), e4, gd1 w3, Int.toNat_natCast, s_noGear hw hR.F e1, q_some]
  by_cases gb : 0 ≤ x2 ∧ x2 < m 3 w
  case neg =>
    rw [if_neg gb, if_neg (show ¬ ((1 : Int) = 0) by decide), s_gearOf0 hw hR.F gb, q_some, if_neg (show ¬ ((0 : Nat) ≠ 0) by decide)]
    exact bad 1 (-11) (by omega) (by decide)
  obtain ⟨g, rfl⟩ : ∃ g : Nat, x2 = (g : Int) := ⟨x2.toNat, by omega⟩
  obtain ⟨g40, i120, hj, eK, k0, k10, eL, l0, l8, lt, ln⟩ := hR.gr hw gb.2
  have i12 : (0 : Int) ≤ ((40 * w + g : Nat) : Int) ∧ ((40 * w + g : Nat) : Int) < 120 := by omega
  rw [if_pos gb, if_pos rfl, s_gearOf hw hR.F gb.2, q_some, if_pos (show 40 * w + g + 1 ≠ 0 by omega), s_g hw e1 g40, q_some]
  unfold G_Step_isForPlan GB_Mo_planFault_144 GB_Mo_planFault_183 G_Step_planByNumber
  rw [i3, gd1 (show (0 : Int) ≤ ((64 * w + 4 * k + 3 : Nat) : Int) ∧ ((64 * w + 4 * k + 3 : Nat) : Int) < 192 by omega), Int.toNat_natCast, gd1 (show (0 : Int) ≤ 3 ∧ (3 : Int) < 4 by decide), show (3 : Int).toNat = 3 from rfl, v3]
  simp only [bi1, gd1 i12, gd1 hj, eK, Int.toNat_natCast, s_cDivert hj, s_mDivert, q_some, s_parcels hR hw gb.2, s_load i120 l0 l8, s_cHasSide hj _ _ (show 0 ≤ c 0 (40 * w + g + 1) 0 by omega) (show c 0 (40 * w + g + 1) 0 ≤ 10 by omega), s_mSides, s_beyond]
  generalize m 58 (64 * w + 4 * k + 3) = x3
  have hx : x1 = 0 ∨ x1 = 1 ∨ x1 = 2 := by omega
  rcases hx with rfl | rfl | rfl
  · by_cases k9 : m 5 (40 * w + g) = 9
    case neg => exact ⟨-12, 2, c, m, by simp [k9, q_some], by simp [k9], Or.inr ⟨by omega, by decide⟩, h, eC.rf _ _, eM.rf _ _⟩
    by_cases l4 : 4 ≤ m 57 (16 * w + k)
    case neg => exact ⟨-13, 3, c, m, by simp [k9, l4, q_some], by simp [k9, l4], Or.inr ⟨by omega, by decide⟩, h, eC.rf _ _, eM.rf _ _⟩
    by_cases z : x3 = 0
    · exact ⟨0, 0, wc c 7 (40 * w + g + 1) 0 0, wm m 14 (40 * w + g) 0, by simp [k9, l4, z, q_some, q_some2], by simp [k9, l4, z, gd1], Or.inl ⟨rfl, rfl⟩, h.ofE (lc := [7]) (lm := [14]) (Nat.le_refl _) (hR.f7 (40 * w + g) 0 (Or.inl rfl)) (by repeat first | exact eC.rf _ _ | refine eC.wc ?_ (by decide) _ _ _ | refine eC.sr ?_ (by decide) _ _) (by repeat first | exact eM.rf _ _ | refine eM.wm ?_ (by decide) _ _) rfl rfl, eC.up (l := [7]) (by repeat first | exact eC.rf _ _ | refine eC.wc ?_ (by decide) _ _ _ | refine eC.sr ?_ (by decide) _ _) (by decide), eM.up (l := [14]) (by repeat first | exact eM.rf _ _ | refine eM.wm ?_ (by decide) _ _) (by decide)⟩
    · exact ⟨0, 0, wc c 7 (40 * w + g + 1) 0 1, wm m 14 (40 * w + g) 1, by simp [k9, l4, z, q_some, q_some2], by simp [k9, l4, z, gd1], Or.inl ⟨rfl, rfl⟩, h.ofE (lc := [7]) (lm := [14]) (Nat.le_refl _) (hR.f7 (40 * w + g) 1 (Or.inr rfl)) (by repeat first | exact eC.rf _ _ | refine eC.wc ?_ (by decide) _ _ _ | refine eC.sr ?_ (by decide) _ _) (by repeat first | exact eM.rf _ _ | refine eM.wm ?_ (by decide) _ _) rfl rfl, eC.up (l := [7]) (by repeat first | exact eC.rf _ _ | refine eC.wc ?_ (by decide) _ _ _ | refine eC.sr ?_ (by decide) _ _) (by decide), eM.up (l := [14]) (by repeat first | exact eM.rf _ _ | refine eM.wm ?_ (by decide) _ _) (by decide)⟩
  · by_cases k9 : m 5 (40 * w + g) = 5 ∨ m 5 (40 * w + g) = 6
    case neg => exact ⟨-12, 2, c, m, by simp [k9, q_some, gd1], by simp [k9], Or.inr ⟨by omega, by decide⟩, h, eC.rf _ _, eM.rf _ _⟩
    by_cases l4 : 4 ≤ m 57 (16 * w + k)
    case neg => exact ⟨-13, 3, c, m, by simp [k9, l4, q_some, gd1], by simp [k9, l4], Or.inr ⟨by omega, by decide⟩, h, eC.rf _ _, eM.rf _ _⟩
    by_cases e : ld m (40 * w + g) = 0
    case neg => exact ⟨0, 0, c, m, by simp [k9, l4, e, q_some, q_some2, gd1], by simp [k9, l4, e, gd1], Or.inl ⟨rfl, rfl⟩, h, eC.rf _ _, eM.rf _ _⟩
    rcases k9 with kk | kk
    · have ps : p_w 1 = 1 := by rw [p_w1 (by omega) (by omega)]
      by_cases a : 0 ≤ x3
      case neg => exact ⟨-13, 3, c, m, by simp [kk, l4, e, a, q_some, q_some2, gd1], by simp [kk, l4, e, gd1, ps, a], Or.inr ⟨by omega, by decide⟩, h, eC.rf _ _, eM.rf _ _⟩
      by_cases d : x3 < 2
      · exact ⟨0, 0, wc c 6 (40 * w + g + 1) 0 x3, wm m 10 (40 * w + g) x3, by simp [kk, l4, e, a, d, q_some, q_some2, gd1], by simp [kk, l4, e, gd1, ps, a, show x3 ≤ 1 by omega], Or.inl ⟨rfl, rfl⟩, h.ofE (lc := [6]) (lm := [10]) (Nat.le_refl _) (hR.f6 (40 * w + g) x3 (by omega)) (by repeat first | exact eC.rf _ _ | refine eC.wc ?_ (by decide) _ _ _ | refine eC.sr ?_ (by decide) _ _) (by repeat first | exact eM.rf _ _ | refine eM.wm ?_ (by decide) _ _) rfl rfl, eC.up (l := [6]) (by repeat first | exact eC.rf _ _ | refine eC.wc ?_ (by decide) _ _ _ | refine eC.sr ?_ (by decide) _ _) (by decide), eM.up (l := [10]) (by repeat first | exact eM.rf _ _ | refine eM.wm ?_ (by decide) _ _) (by decide)⟩
      · exact ⟨-13, 3, c, m, by simp [kk, l4, e, a, d, q_some, q_some2, gd1], by simp [kk, l4, e, gd1, ps, a, show ¬ x3 ≤ 1 by omega], Or.inr ⟨by omega, by decide⟩, h, eC.rf _ _, eM.rf _ _⟩
    · have ps : p_w 2 = 2 := by rw [p_w1 (by omega) (by omega)]
      by_cases a : 0 ≤ x3
      case neg => exact ⟨-13, 3, c, m, by simp [kk, l4, e, a, q_some, q_some2, gd1], by simp [kk, l4, e, gd1, ps, a], Or.inr ⟨by omega, by decide⟩, h, eC.rf _ _, eM.rf _ _⟩
      by_cases d : x3 < 3
      · exact ⟨0, 0, wc c 6 (40 * w + g + 1) 0 x3, wm m 10 (40 * w + g) x3, by simp [kk, l4, e, a, d, q_some, q_some2, gd1], by simp [kk, l4, e, gd1, ps, a, show x3 ≤ 2 by omega], Or.inl ⟨rfl, rfl⟩, h.ofE (lc := [6]) (lm := [10]) (Nat.le_refl _) (hR.f6 (40 * w + g) x3 (by omega)) (by repeat first | exact eC.rf _ _ | refine eC.wc ?_ (by decide) _ _ _ | refine eC.sr ?_ (by decide) _ _) (by repeat first | exact eM.rf _ _ | refine eM.wm ?_ (by decide) _ _) rfl rfl, eC.up (l := [6]) (by repeat first | exact eC.rf _ _ | refine eC.wc ?_ (by decide) _ _ _ | refine eC.sr ?_ (by decide) _ _) (by decide), eM.up (l := [10]) (by repeat first | exact eM.rf _ _ | refine eM.wm ?_ (by decide) _ _) (by decide)⟩
      · exact ⟨-13, 3, c, m, by simp [kk, l4, e, a, d, q_some, q_some2, gd1], by simp [kk, l4, e, gd1, ps, a, show ¬ x3 ≤ 2 by omega], Or.inr ⟨by omega, by decide⟩, h, eC.rf _ _, eM.rf _ _⟩
  · by_cases k9 : m 5 (40 * w + g) = 8
    case neg => exact ⟨-12, 2, c, m, by simp [k9, q_some], by simp [k9], Or.inr ⟨by omega, by decide⟩, h, eC.rf _ _, eM.rf _ _⟩
    by_cases l4 : 4 ≤ m 57 (16 * w + k)
    case neg => exact ⟨-13, 3, c, m, by simp [k9, l4, q_some], by simp [k9, l4], Or.inr ⟨by omega, by decide⟩, h, eC.rf _ _, eM.rf _ _⟩
    by_cases z : x3 < 0
    · exact ⟨-13, 3, c, m, by simp [k9, l4, z, q_some, q_some2], by simp [k9, l4, show ¬ 0 ≤ x3 by omega], Or.inr ⟨by omega, by decide⟩, h, eC.rf _ _, eM.rf _ _⟩
    by_cases z2 : x3 ≤ 20
    · exact ⟨0, 0, wc c 14 (40 * w + g + 1) 0 x3, wm m 13 (40 * w + g) x3, by simp [k9, l4, z, z2, q_some, q_some2], by simp [k9, l4, show 0 ≤ x3 by omega, z2], Or.inl ⟨rfl, rfl⟩, h.ofE (lc := [14]) (lm := [13]) (Nat.le_refl _) (hR.f14 (40 * w + g) x3 (by omega)) (by repeat first | exact eC.rf _ _ | refine eC.wc ?_ (by decide) _ _ _ | refine eC.sr ?_ (by decide) _ _) (by repeat first | exact eM.rf _ _ | refine eM.wm ?_ (by decide) _ _) rfl rfl, eC.up (l := [14]) (by repeat first | exact eC.rf _ _ | refine eC.wc ?_ (by decide) _ _ _ | refine eC.sr ?_ (by decide) _ _) (by decide), eM.up (l := [13]) (by repeat first | exact eM.rf _ _ | refine eM.wm ?_ (by decide) _ _) (by decide)⟩
    · exact ⟨-13, 3, c, m, by simp [k9, l4, z, z2, q_some, q_some2], by simp [k9, l4, z2], Or.inr ⟨by omega, by decide⟩, h, eC.rf _ _, eM.rf _ _⟩
