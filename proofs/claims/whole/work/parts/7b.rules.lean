theorem s_quot {b : Nat} {c : h_C} {m : h_M} (h : RR b c m) {w : Nat} (hw : w < 3) (e1 : m 100 0 = (w : Int)) (e4 : c 5002 0 0 = (w : Int)) (e5 : c 5003 0 0 = (w : Int)) (x : Int) (x0 : 0 ≤ x) : ∃ f v m', G_Step_quotient x c = some v ∧ G_Mo_quotientOf x m = some (f, m') ∧ eM [173, 180] m m' ∧ ((f = 0 ∧ 0 ≤ v ∧ m' 180 0 = v) ∨ ((1 ≤ f ∧ f ≤ 6) ∧ v = -10 - f)) := by
  have f1 := h.F.1 w
  by_cases b40 : x < 40
  case neg =>
    refine ⟨3, -13, m, ?_, ?_, eM.rf _ _, Or.inr ⟨by omega, by decide⟩⟩
    · unfold G_Step_quotient
      rw [if_neg (by omega), if_neg b40]
    · unfold G_Mo_quotientOf
      rw [if_neg (by omega)]
  by_cases bg : x < m 3 w
  case neg =>
    refine ⟨1, -11, m, ?_, ?_, eM.rf _ _, Or.inr ⟨by omega, by decide⟩⟩
    · unfold G_Step_quotient
      rw [if_neg (by omega), if_pos b40, e4, Int.toNat_natCast, gd1 (by omega), f1.1, if_neg bg]
    · unfold G_Mo_quotientOf
      rw [if_pos (by omega), s_noGear hw h.F e1, if_neg (fun z => bg z.2), q_some, if_neg (by omega)]
  obtain ⟨g, rfl⟩ : ∃ g : Nat, x = (g : Int) := ⟨x.toNat, by omega⟩
  obtain ⟨g40, i120, hj, eK, k0, k10, eL, l0, l8, lt, ln⟩ := h.gr hw bg
  obtain ⟨n1, n2, n3, _, _⟩ := (h.G.2 w g hw g40).1 bg
  have hC : ∀ X, (if m 5 (40 * w + g) = 7 ∨ m 5 (40 * w + g) = 8 then GO_Step_quotient_52 3000 (40 * w + g + 1) 0 0 c else some (-12)) = X → G_Step_quotient (g : Int) c = X := by
    intro X hX
    unfold G_Step_quotient
    rw [if_neg (by omega), if_pos b40, e4, e5, Int.toNat_natCast, Int.toNat_natCast, gd1 (by omega), f1.1, if_pos bg, gd1 (by omega), gd1 (by omega), s_cChute hj, q_some, eK, ← hX]
    by_cases z : m 5 (40 * w + g) = 7 ∨ m 5 (40 * w + g) = 8
    · rw [if_pos z, if_pos z, if_pos (by decide)]
    · rw [if_neg z, if_neg z, if_neg (by decide)]
  have hM : ∀ X, (if m 5 (40 * w + g) = 7 ∨ m 5 (40 * w + g) = 8 then GO_Mo_quotientOf_43 3000 (g : Int) ((40 * w + g : Nat) : Int) 0 0 m else some (2, m)) = X → G_Mo_quotientOf (g : Int) m = X := by
    intro X hX
    unfold G_Mo_quotientOf
    rw [if_pos (by omega), s_noGear hw h.F e1, if_pos ⟨by omega, bg⟩, q_some, if_pos rfl, s_g hw e1 g40, q_some, gd1 (by omega), Int.toNat_natCast, s_mChute, q_some, ← hX]
    by_cases z : m 5 (40 * w + g) = 7 ∨ m 5 (40 * w + g) = 8
    · rw [if_pos z, if_pos z, if_pos (by decide)]
    · rw [if_neg z, if_neg z, if_neg (by decide)]
  by_cases ch : m 5 (40 * w + g) = 7 ∨ m 5 (40 * w + g) = 8
  case neg => exact ⟨2, -12, m, hC _ (by rw [if_neg ch]), hM _ (by rw [if_neg ch]), eM.rf _ _, Or.inr ⟨by omega, by decide⟩⟩
  have key : ∀ (d k o fu : Nat) (m1 : h_M), (m 7 (40 * w + g)).toNat = k + d → o ≤ k → d < fu → eM [173] m m1 → ∃ f v m', GO_Step_quotient_52 fu (40 * w + g + 1) (o : Int) (k : Int) c = some v ∧ GO_Mo_quotientOf_43 fu (g : Int) ((40 * w + g : Nat) : Int) (o : Int) (k : Int) m1 = some (f, m') ∧ eM [173, 180] m m' ∧ ((f = 0 ∧ 0 ≤ v ∧ m' 180 0 = v) ∨ ((1 ≤ f ∧ f ≤ 6) ∧ v = -10 - f)) := by
    intro d
    induction d with
    | zero =>
      intro k o fu m1 hk ho hf y
      obtain ⟨fu, rfl⟩ : ∃ g, fu = g + 1 := ⟨fu - 1, by omega⟩
      have h1 : RR b c m1 := h.scr [] [173] (eC.rf _ _) y rfl rfl
      have y7 : m1 7 = m 7 := y 7 (by decide)
      have y6 : m1 6 = m 6 := y 6 (by decide)
      have bg1 : (g : Int) < m1 3 w := by rw [y 3 (by decide)]; exact bg
      have hl := ld_le m1 (40 * w + g) (by rw [y6]; exact l8)
      by_cases o0 : o = 0
      · subst o0
        refine ⟨6, -16, m1, ?_, ?_, y.up (by decide), Or.inr ⟨by omega, by decide⟩⟩
        · show GL_Step_quotient_52 _ _ _ _ c = _
          unfold GL_Step_quotient_52
          rw [gd1 hj, n1, if_pos (by omega), if_neg (by simp)]
        · show GL_Mo_quotientOf_43 _ _ _ _ _ m1 = _
          unfold GL_Mo_quotientOf_43
          rw [gd1 (by omega), Int.toNat_natCast, y7, if_pos (by omega), if_neg (by simp)]
      · refine ⟨0, (ld m1 (40 * w + g) : Int) / (o : Int), wm m1 180 0 ((ld m1 (40 * w + g) : Int) / (o : Int)), ?_, ?_, (y.up (by decide)).tr (eM.up (l := [180]) (by repeat first | exact eM.rf _ _ | refine eM.wm ?_ (by decide) _ _) (by decide)), Or.inl ⟨rfl, Int.ediv_nonneg (by omega) (by omega), by simp [wm_at]⟩⟩
        · show GL_Step_quotient_52 _ _ _ _ c = _
          unfold GL_Step_quotient_52
          rw [gd1 hj, n1, if_pos (by omega), if_pos (by omega), s_parcels h1 hw bg1, q_some, gd1 (by omega), p_div1 (by omega) (by omega) (by omega)]
        · show GL_Mo_quotientOf_43 _ _ _ _ _ m1 = _
          unfold GL_Mo_quotientOf_43
          rw [gd1 (by omega), Int.toNat_natCast, y7, if_pos (by omega), if_pos (by omega), s_load i120 (by rw [y6]; exact l0) (by rw [y6]; exact l8), q_some, gd1 (by omega), p_div1 (by omega) (by omega) (by omega), bi1]
    | succ d ih =>
      intro k o fu m1 hk ho hf y
      obtain ⟨fu, rfl⟩ : ∃ g, fu = g + 1 := ⟨fu - 1, by omega⟩
      have h1 : RR b c m1 := h.scr [] [173] (eC.rf _ _) y rfl rfl
      have y7 : m1 7 = m 7 := y 7 (by decide)
      have bg1 : (g : Int) < m1 3 w := by rw [y 3 (by decide)]; exact bg
      have e11 : m1 100 0 = (w : Int) := by rw [y 100 (by decide)]; exact e1
      have bk : p_w ((k : Int) + 1) = ((k + 1 : Nat) : Int) := p_w1 (by omega) (by omega)
      have bo : p_w ((o : Int) + 1) = ((o + 1 : Nat) : Int) := p_w1 (by omega) (by omega)
      have bo0 : p_w (o : Int) = (o : Int) := p_w1 (by omega) (by omega)
      have kn : ¬ m 7 (40 * w + g) ≤ (k : Int) := by omega
      have i12 : (0 : Int) ≤ ((40 * w + g : Nat) : Int) ∧ ((40 * w + g : Nat) : Int) < 120 := by omega
      have w3 : (0 : Int) ≤ (w : Int) ∧ (w : Int) < 3 := by omega
      obtain ⟨f, v, m2, x1, x2, x3, x4⟩ := s_follow h1 hw e11 bg1 (k : Int) (by omega)
      have y2 : eM [173] m m2 := y.tr x3
      have e12 : m2 100 0 = (w : Int) := by rw [x3 100 (by decide)]; exact e11
      obtain ⟨f0, v0, m0, a1, a2, a3⟩ := ih (k + 1) o fu m2 (by omega) (by omega) (by omega) y2
      obtain ⟨f9, v9, m9, c1, c2, c3⟩ := ih (k + 1) (o + 1) fu m2 (by omega) (by omega) (by omega) y2
      have C0 : GB_Step_quotient_115 (GO_Step_quotient_52 fu) (40 * w + g + 1) (o : Int) (k : Int) c = some v0 := by
        unfold GB_Step_quotient_115
        rw [bk, bi1]; exact a1
      have C9 : p_bi (p_w ((o : Int) + 1)) (fun x22 => GB_Step_quotient_115 (GO_Step_quotient_52 fu) (40 * w + g + 1) x22 (k : Int) c) = some v9 := by
        unfold GB_Step_quotient_115
        rw [bo, bk, bi1, bi1]; exact c1
      have M0 : GB_Mo_quotientOf_103 (GO_Mo_quotientOf_43 fu) (g : Int) ((40 * w + g : Nat) : Int) (k : Int) (o : Int) m2 = some (f0, m0) := by
        unfold GB_Mo_quotientOf_103 GB_Mo_quotientOf_104
        rw [Int.add_zero, bo0, bk, bi1, bi1]; exact a2
      have M9 : GB_Mo_quotientOf_104 (GO_Mo_quotientOf_43 fu) (g : Int) ((40 * w + g : Nat) : Int) (k : Int) 1 (o : Int) m2 = some (f9, m9) := by
        unfold GB_Mo_quotientOf_104
        rw [bo, bk, bi1, bi1]; exact c2
      have hC1 : ∀ X, (if v < 0 then some v0 else p_gd ((0 : Int) ≤ v ∧ v < 40) (if c 0 (40 * w + v.toNat + 1) 0 ≠ 9 then some v0 else if c 7 (40 * w + v.toNat + 1) 0 = 0 then some v0 else some v9)) = X → GO_Step_quotient_52 (fu + 1) (40 * w + g + 1) (o : Int) (k : Int) c = X := by
        intro X hX
        show GL_Step_quotient_52 _ _ _ _ c = _
        unfold GL_Step_quotient_52
        rw [gd1 hj, n1, if_neg kn, e4, e5, Int.toNat_natCast, gd1 w3, x1, q_some, gd1 w3, C0, C9]
        exact hX
      have hM1 : ∀ X, (if f ≠ 0 then some (f0, m0) else q_bv (G_Mo_g (m2 173 0) m2) fun r19 => p_gd ((0 : Int) ≤ r19 ∧ r19 < (120 : Int)) (if (m2 5 (r19 : Int).toNat) ≠ 9 then some (f0, m0) else q_bv (G_Mo_g (m2 173 0) m2) fun r25 => p_gd ((0 : Int) ≤ r25 ∧ r25 < (120 : Int)) (if (m2 14 (r25 : Int).toNat) = 0 then some (f0, m0) else some (f9, m9)))) = X → GO_Mo_quotientOf_43 (fu + 1) (g : Int) ((40 * w + g : Nat) : Int) (o : Int) (k : Int) m1 = X := by
        intro X hX
        show GL_Mo_quotientOf_43 _ _ _ _ _ m1 = _
        unfold GL_Mo_quotientOf_43
        rw [gd1 i12, Int.toNat_natCast, y7, if_neg kn, x2, q_some2, M0, M9]
        exact hX
      rcases x4 with ⟨rfl, t, rfl, t3, t4⟩ | ⟨hf', rfl⟩
      case inr => exact ⟨f0, v0, m0, hC1 _ (by rw [if_pos (by omega)]), hM1 _ (by rw [if_pos (by omega)]), a3⟩
      have t3' : (t : Int) < m 3 w := by rw [y 3 (by decide)] at t3; exact t3
      obtain ⟨t40, i120t, hjt, eKt, _⟩ := h.gr hw t3'
      have d7 := (h.G.1 (40 * w + t)).1.2.1
      have gt : G_Mo_g (m2 173 0) m2 = some ((40 * w + t : Nat) : Int) := by rw [t4]; exact s_g hw e12 t40
      have hC2 : ∀ X, (if m 5 (40 * w + t) ≠ 9 then some v0 else if m 14 (40 * w + t) = 0 then some v0 else some v9) = X → GO_Step_quotient_52 (fu + 1) (40 * w + g + 1) (o : Int) (k : Int) c = X := fun X hX => hC1 X (by rw [if_neg (by omega), gd1 (by omega), Int.toNat_natCast, eKt, d7]; exact hX)
      have hM2 : ∀ X, (if m 5 (40 * w + t) ≠ 9 then some (f0, m0) else if m 14 (40 * w + t) = 0 then some (f0, m0) else some (f9, m9)) = X → GO_Mo_quotientOf_43 (fu + 1) (g : Int) ((40 * w + g : Nat) : Int) (o : Int) (k : Int) m1 = X := fun X hX => hM1 X (by rw [if_neg (by simp), gt, q_some, gd1 (by omega), Int.toNat_natCast, q_some, gd1 (by omega), Int.toNat_natCast, y2 5 (by decide), y2 14 (by decide)]; exact hX)
      by_cases k9 : m 5 (40 * w + t) = 9
      case neg => exact ⟨f0, v0, m0, hC2 _ (by rw [if_pos k9]), hM2 _ (by rw [if_pos k9]), a3⟩
      by_cases op : m 14 (40 * w + t) = 0
      · exact ⟨f0, v0, m0, hC2 _ (by rw [if_neg (by simp [k9]), if_pos op]), hM2 _ (by rw [if_neg (by simp [k9]), if_pos op]), a3⟩
      · exact ⟨f9, v9, m9, hC2 _ (by rw [if_neg (by simp [k9]), if_neg op]), hM2 _ (by rw [if_neg (by simp [k9]), if_neg op]), c3⟩
  obtain ⟨f, v, m', z1, z2, z3⟩ := key _ 0 0 3000 m (Nat.zero_add _).symm (by omega) (by omega) (eM.rf _ _)
  exact ⟨f, v, m', hC _ (by rw [if_pos ch]; exact z1), hM _ (by rw [if_pos ch]; exact z2), z3⟩
