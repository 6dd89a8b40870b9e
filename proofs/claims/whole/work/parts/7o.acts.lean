theorem ZZ.acts {w : Nat} {F L : Int} (v3 : Int) : ∀ (d g fu b : Nat) (c : h_C) (m : h_M), ZZ b c m w F L → CH c m w → b + 19 * d < 900000000 → ((g + d : Nat) : Int) = m 3 w → d < fu → ∃ c' m', GO_Step_run_128 fu v3 (g : Int) c = some (p_w (m' 42 w - v3), c') ∧ GO_Mo_steps_73 fu (g : Int) m = some m' ∧ ZZ (b + 19 * d) c' m' w F L ∧ eC aC c c' ∧ eM (171 :: aM) m m' := by
  intro d
  induction d with
  | zero =>
    intro g fu b c m h hCH hb hd hf
    obtain ⟨fu, rfl⟩ : ∃ g, fu = g + 1 := ⟨fu - 1, by omega⟩
    obtain ⟨hR, ⟨hw, e1, e2, e3, e4, e5⟩, _⟩ := id h
    have w3 : (0 : Int) ≤ (w : Int) ∧ (w : Int) < 3 := by omega
    have f1 := (hR.F.1 w).1
    have l1 := (hR.L w hw).1.2.2.1
    refine ⟨c, m, ?_, ?_, h, eC.rf _ _, eM.rf _ _⟩
    · show GL_Step_run_128 _ _ _ c = _
      unfold GL_Step_run_128
      rw [e4, gd1 w3, Int.toNat_natCast, f1, if_pos (by omega), e5, gd1 w3, Int.toNat_natCast, l1]
    · show GL_Mo_steps_73 _ _ m = _
      unfold GL_Mo_steps_73
      rw [e1, gd1 w3, Int.toNat_natCast, if_pos (by omega)]
  | succ d ih =>
    intro g fu b c m h hCH hb hd hf
    obtain ⟨fu, rfl⟩ : ∃ g, fu = g + 1 := ⟨fu - 1, by omega⟩
    obtain ⟨hR, ⟨hw, e1, e2, e3, e4, e5⟩, _⟩ := id h
    have w3 : (0 : Int) ≤ (w : Int) ∧ (w : Int) < 3 := by omega
    have f1 := (hR.F.1 w).1
    have hg : (g : Int) < m 3 w := by omega
    obtain ⟨g40, i120, hj, _⟩ := hR.gr hw hg
    have nC : ∀ c2 : h_C, GB_Step_run_163 (GO_Step_run_128 fu) v3 (g : Int) c2 = GO_Step_run_128 fu v3 ((g + 1 : Nat) : Int) c2 := fun c2 => by
      unfold GB_Step_run_163
      rw [p_w1 (by omega) (by omega), bi1]
      rfl
    have nM : ∀ m2 : h_M, GB_Mo_steps_103 (GO_Mo_steps_73 fu) (g : Int) m2 = GO_Mo_steps_73 fu ((g + 1 : Nat) : Int) m2 := fun m2 => by
      unfold GB_Mo_steps_103
      rw [p_w1 (by omega) (by omega), bi1]
      rfl
    have hC : ∀ X, (if p_rem (m 4 w) (if m 5 (40 * w + g) = 1 ∨ m 5 (40 * w + g) = 4 then 2 else 1) ≠ 0 then GO_Step_run_128 fu v3 ((g + 1 : Nat) : Int) c else q_bv (G_Step_act (g : Int) c) fun c18 => GO_Step_run_128 fu v3 ((g + 1 : Nat) : Int) c18) = X → GO_Step_run_128 (fu + 1) v3 (g : Int) c = X := by
      intro X hX
      show GL_Step_run_128 _ _ _ c = _
      unfold GL_Step_run_128
      rw [e4, e5, gd1 w3, Int.toNat_natCast, f1, if_neg (by omega), gd1 w3, gd1 (by omega), Int.toNat_natCast, s_inStep hR hw e5 hg, q_some]
      simp only [nC]
      rw [← hX]
      by_cases z : p_rem (m 4 w) (if m 5 (40 * w + g) = 1 ∨ m 5 (40 * w + g) = 4 then 2 else 1) ≠ 0
      · rw [if_pos z, if_pos z, if_pos rfl]
      · rw [if_neg z, if_neg z, if_neg (by decide)]
    have hM : ∀ X, (if p_rem (m 4 w) (if m 5 (40 * w + g) = 1 ∨ m 5 (40 * w + g) = 4 then 2 else 1) ≠ 0 then GO_Mo_steps_73 fu ((g + 1 : Nat) : Int) m else q_bv (G_Mo_act (g : Int) m) fun m14 => GO_Mo_steps_73 fu ((g + 1 : Nat) : Int) m14) = X → GO_Mo_steps_73 (fu + 1) (g : Int) m = X := by
      intro X hX
      show GL_Mo_steps_73 _ _ m = _
      unfold GL_Mo_steps_73
      rw [e1, gd1 w3, Int.toNat_natCast, if_neg (by omega), s_g hw e1 g40, q_some, s_act hw e1 i120, q_some]
      simp only [nM]
      rw [← hX]
      by_cases z : p_rem (m 4 w) (if m 5 (40 * w + g) = 1 ∨ m 5 (40 * w + g) = 4 then 2 else 1) ≠ 0
      · rw [if_pos z, if_pos z, if_pos rfl]
      · rw [if_neg z, if_neg z, if_neg (by decide)]
    by_cases z : p_rem (m 4 w) (if m 5 (40 * w + g) = 1 ∨ m 5 (40 * w + g) = 4 then 2 else 1) ≠ 0
    · obtain ⟨c', m', y1, y2, y3, y4, y5⟩ := ih (g + 1) fu b c m h hCH (by omega) (by omega) (by omega)
      exact ⟨c', m', hC _ (by rw [if_pos z]; exact y1), hM _ (by rw [if_pos z]; exact y2), y3.more (by omega), y4, y5⟩
    · obtain ⟨c1, m1, a1, a2, a3, a4, a5⟩ := h.act (by omega) hCH hg
      obtain ⟨c', m', y1, y2, y3, y4, y5⟩ := ih (g + 1) fu (b + 19) c1 m1 a3 (hCH.of a4 a5 rfl rfl) (by omega) (by rw [a5 3 (by decide)]; omega) (by omega)
      exact ⟨c', m', hC _ (by rw [if_neg z, a1, q_some]; exact y1), hM _ (by rw [if_neg z, a2, q_some]; exact y2), y3.more (by omega), a4.tr y4, a5.tr y5⟩
