theorem ZZ.plans {w : Nat} {F L : Int} (v3 : Int) : ∀ (d k fu fm b : Nat) (c : h_C) (m : h_M), ZZ b c m w F L → m 171 0 = -1 → b + d < 800000000 → ((k + d : Nat) : Int) = m 56 w → d < fu → d < fm → ∃ c' m', GO_Step_run_97 fu v3 (k : Int) c = (q_bv (G_Step_letMergesChoose c') fun c6 => GO_Step_run_128 3000 v3 0 c6) ∧ GO_Mo_doPlans_7 fm (k : Int) m = some m' ∧ ZZ (b + d) c' m' w F L ∧ eC [14, 6, 7, 2005, 403, 804, 12] c c' ∧ eM [13, 10, 14, 43, 42, 102, 172, 20] m m' := by
  intro d
  induction d with
  | zero =>
    intro k fu fm b c m h ha hb hd hf hf'
    obtain ⟨fu, rfl⟩ : ∃ g, fu = g + 1 := ⟨fu - 1, by omega⟩
    obtain ⟨fm, rfl⟩ : ∃ g, fm = g + 1 := ⟨fm - 1, by omega⟩
    obtain ⟨hR, ⟨hw, e1, e2, e3, e4, e5⟩, _⟩ := id h
    have w3 : (0 : Int) ≤ (w : Int) ∧ (w : Int) < 3 := by omega
    obtain ⟨q1, _⟩ := hR.Q w hw
    refine ⟨c, m, ?_, ?_, h, eC.rf _ _, eM.rf _ _⟩
    · show GL_Step_run_97 _ _ _ c = _
      unfold GL_Step_run_97
      rw [e4, gd1 w3, Int.toNat_natCast, q1, if_pos (by omega)]
    · show GL_Mo_doPlans_7 _ _ m = _
      unfold GL_Mo_doPlans_7
      rw [e1, gd1 w3, Int.toNat_natCast, if_pos (by omega)]
  | succ d ih =>
    intro k fu fm b c m h ha hb hd hf hf'
    obtain ⟨fu, rfl⟩ : ∃ g, fu = g + 1 := ⟨fu - 1, by omega⟩
    obtain ⟨fm, rfl⟩ : ∃ g, fm = g + 1 := ⟨fm - 1, by omega⟩
    obtain ⟨hR, ⟨hw, e1, e2, e3, e4, e5⟩, _⟩ := id h
    have w3 : (0 : Int) ≤ (w : Int) ∧ (w : Int) < 3 := by omega
    obtain ⟨q1, q2, q3, _⟩ := hR.Q w hw
    obtain ⟨c1, m1, a1, a2, a3, a4, a5⟩ := h.doPlan (by omega) ha (k := k) (by omega) fm
    obtain ⟨c', m', y1, y2, y3, y4, y5⟩ := ih (k + 1) fu fm (b + 1) c1 m1 a3 (by rw [a5 171 (by decide)]; exact ha) (by omega) (by rw [a5 56 (by decide)]; omega) (by omega) (by omega)
    refine ⟨c', m', ?_, by rw [a2]; exact y2, y3.more (by omega), a4.tr y4, a5.tr y5⟩
    rw [← y1]
    show GL_Step_run_97 _ _ _ c = _
    unfold GL_Step_run_97
    rw [e4, gd1 w3, Int.toNat_natCast, q1, if_neg (by omega), a1, q_some, p_w1 (by omega) (by omega), bi1]
    rfl
