theorem ZZ.doPlan {b : Nat} (hb : b < 1000000000) {c : h_C} {m : h_M} {w : Nat} {F L : Int} (h : ZZ b c m w F L) (ha : m 171 0 = -1) {k : Nat} (hk : (k : Int) < m 56 w) (n : Nat) : ∃ c' m', G_Step_doPlan (k : Int) c = some c' ∧ GO_Mo_doPlans_7 (n + 1) (k : Int) m = GO_Mo_doPlans_7 n ((k + 1 : Nat) : Int) m' ∧ ZZ (b + 1) c' m' w F L ∧ eC [14, 6, 7, 2005, 403, 804, 12] c c' ∧ eM [13, 10, 14, 43, 42, 102, 172, 20] m m' := by
  obtain ⟨hR, ⟨hw, e1, e2, e3, e4, e5⟩, _⟩ := id h
  have w3 : (0 : Int) ≤ (w : Int) ∧ (w : Int) < 3 := by omega
  obtain ⟨q1, q2, q3, qk⟩ := hR.Q w hw
  obtain ⟨p1, p2, p3, pv⟩ := qk k (by omega) hk
  have v0 := pv 0 (by omega)
  have s4 := (hR.S w hw).1
  obtain ⟨r, f, c1, m1, x1, x2, x3, x4, x5, x6⟩ := h.plan hk
  have i0 : p_w (p_w (64 * (w : Int)) + p_w (4 * (k : Int))) = ((64 * w + 4 * k + 0 : Nat) : Int) := by rw [p_w1 (x := 64 * (w : Int)) (by omega) (by omega), p_w1 (x := 4 * (k : Int)) (by omega) (by omega), p_w1 (by omega) (by omega)]; omega
  have i1 : p_w (p_w (16 * (w : Int)) + (k : Int)) = ((16 * w + k : Nat) : Int) := by rw [p_w1 (x := 16 * (w : Int)) (by omega) (by omega), p_w1 (by omega) (by omega)]; omega
  have nx : ∀ m2 : h_M, GB_Mo_doPlans_73 (GO_Mo_doPlans_7 n) (k : Int) m2 = GO_Mo_doPlans_7 n ((k + 1 : Nat) : Int) m2 := fun m2 => by
    unfold GB_Mo_doPlans_73
    rw [p_w1 (by omega) (by omega), bi1]
    rfl
  have hC : ∀ X, (if m 58 (64 * w + 4 * k + 0) = m 4 w then (if r = 0 then some c1 else q_bv (G_Step_addFinding (-9) 5 r (k : Int) c1) fun c18 => some c18) else some c) = X → G_Step_doPlan (k : Int) c = X := by
    intro X hX
    unfold G_Step_doPlan
    rw [e4, e5, gd1 w3, gd1 (by omega), gd1 (by decide), gd1 w3, Int.toNat_natCast, Int.toNat_natCast, show (0 : Int).toNat = 0 from rfl, v0, s4, p1, x1, q_some2]
    exact hX
  have hM : ∀ X, (if m 58 (64 * w + 4 * k + 0) ≠ m 4 w then GO_Mo_doPlans_7 n ((k + 1 : Nat) : Int) m else (if f ≤ 0 then GO_Mo_doPlans_7 n ((k + 1 : Nat) : Int) m1 else q_bv (G_Mo_find 5 f (k : Int) m1) fun m13 => GO_Mo_doPlans_7 n ((k + 1 : Nat) : Int) m13)) = X → GO_Mo_doPlans_7 (n + 1) (k : Int) m = X := by
    intro X hX
    show GL_Mo_doPlans_7 _ _ m = _
    unfold GL_Mo_doPlans_7
    rw [e1, gd1 w3, Int.toNat_natCast, if_neg (show ¬ m 56 w ≤ (k : Int) by omega), i0, gd1 (show (0 : Int) ≤ ((64 * w + 4 * k + 0 : Nat) : Int) ∧ ((64 * w + 4 * k + 0 : Nat) : Int) < 192 by omega), Int.toNat_natCast, i1, x2, q_some2]
    simp only [nx]
    exact hX
  by_cases z : m 58 (64 * w + 4 * k + 0) = m 4 w
  case neg => exact ⟨c, m, hC _ (by rw [if_neg z]), hM _ (by rw [if_pos z]), h.more (by omega), eC.rf _ _, eM.rf _ _⟩
  rcases x3 with ⟨rfl, rfl⟩ | ⟨hf, rfl⟩
  · exact ⟨c1, m1, hC _ (by rw [if_pos z, if_pos rfl]), hM _ (by rw [if_neg (fun y => y z), if_pos (by decide)]), x4.more (by omega), x5.up (by decide), x6.up (by decide)⟩
  · obtain ⟨c2, m2, a1, a2, a3, a4, a5, _⟩ := x4.fi (by omega) (-1) 5 f (k : Int) hf (Or.inl ⟨rfl, by rw [x6 171 (by decide)]; exact ha⟩)
    rw [if_pos rfl] at a1
    refine ⟨c2, m2, hC _ ?_, hM _ ?_, a3, (x5.up (by decide)).tr (a4.up (by decide)), (x6.up (by decide)).tr (a5.up (by decide))⟩
    · rw [if_pos z, if_neg (by omega), a1, q_some]
    · rw [if_neg (fun y => y z), if_neg (by omega), a2, q_some]
