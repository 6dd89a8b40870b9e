theorem wc_comm (c : h_C) {f i k f' i' k' : Nat} (x x' : Int) (h : ¬ (f = f' ∧ i = i' ∧ k = k')) : wc (wc c f i k x) f' i' k' x' = wc (wc c f' i' k' x') f i k x := by
  funext g j l
  simp only [wc_at]
  by_cases h1 : g = f ∧ j = i ∧ l = k
  · by_cases h2 : g = f' ∧ j = i' ∧ l = k'
    · exact absurd ⟨h1.1.symm.trans h2.1, h1.2.1.symm.trans h2.2.1, h1.2.2.symm.trans h2.2.2⟩ h
    · rw [if_neg h2, if_pos h1, if_pos h1]
  · rw [if_neg h1, if_neg h1]
theorem wm_comm (m : h_M) {f k f' k' : Nat} (x x' : Int) (h : ¬ (f = f' ∧ k = k')) : wm (wm m f k x) f' k' x' = wm (wm m f' k' x') f k x := by
  funext g j
  simp only [wm_at]
  by_cases h1 : g = f ∧ j = k
  · by_cases h2 : g = f' ∧ j = k'
    · exact absurd ⟨h1.1.symm.trans h2.1, h1.2.symm.trans h2.2⟩ h
    · rw [if_neg h2, if_pos h1, if_pos h1]
  · rw [if_neg h1, if_neg h1]
theorem fl3 (c : h_C) (f j : Nat) (x : Int) : sr c f j (fl (c f j) 3 x) = wc (wc (wc c f j 0 x) f j 1 x) f j 2 x := by
  funext g i k
  simp only [sr_at, fl_at, wc_at]
  by_cases h1 : g = f ∧ i = j
  · obtain ⟨rfl, rfl⟩ := h1
    by_cases h2 : k < 3
    · have h3 : k = 0 ∨ k = 1 ∨ k = 2 := by omega
      rcases h3 with rfl | rfl | rfl <;> simp
    · have : k ≠ 0 ∧ k ≠ 1 ∧ k ≠ 2 := by omega
      simp [h2, this]
  · have h3 : ∀ P : Prop, ¬ (g = f ∧ i = j ∧ P) := fun P q => h1 ⟨q.1, q.2.1⟩
    rw [if_neg h1, if_neg (h3 _), if_neg (h3 _), if_neg (h3 _)]
theorem pr_rank {b : Nat} {c : h_C} {m : h_M} (h : RR b c m) (hE : c 607 0 0 = m 102 0) (v1 v2 : Int) : PR b (G_SW_rank v1 v2 c) (G_Mo_rank v1 v2 m) := by
  obtain ⟨w, hw, e1, e2⟩ := h.w
  by_cases hg : 0 ≤ v1 ∧ v1 < m 3 w
  case neg =>
    obtain ⟨r, c', m', x1, x2, x3⟩ := pr_refuse h (-1) (by omega)
    refine ⟨r, c', m', ?_, ?_, x3⟩
    · unfold G_SW_rank
      simp only [e2, Int.toNat_natCast, q_eta, s_gearOf0 hw h.F hg, q_some]
      exact gdT (by omega) (ifF (by simp) x1)
    · unfold G_Mo_rank
      simp only [s_noGear hw h.F e1, if_neg hg, q_some, q_eta]
      exact ifF (by decide) x2
  obtain ⟨g, rfl⟩ : ∃ g : Nat, v1 = (g : Int) := ⟨v1.toNat, by omega⟩
  obtain ⟨g40, i120, hj, eK, k0, k10, eL, l0, l8, lt, ln⟩ := h.gr hw hg.2
  unfold G_SW_rank G_Mo_rank GB_SW_rank_29
  simp (discharger := omega) only [e1, e2, Int.toNat_natCast, q_eta, q_some, q_some2, s_gearOf hw h.F hg.2, s_noGear hw h.F e1, s_g hw e1 g40, s_beyond, s_cTaker hj, s_mTaker, s_cDivert hj, s_mDivert, s_mSides, s_cChute hj, s_mChute, eK, if_pos hg, gd1, p_w1, ne_eq, Nat.add_eq_zero_iff, Nat.succ_ne_zero, and_false, not_false_eq_true, not_true_eq_false, if_true, if_false, ↓reduceIte, bi1]
  repeat' split
  all_goals first | (exfalso; omega) | exact pr_refuse h _ (by omega) | exact pr_fault h _ _ (by omega) (by omega) (by omega) | skip
  have e9 := (h.G.1 (40 * w + g)).2.2.2.2.1 (by omega)
  rw [e9.1]
  exact pr_built (h.f2 _ _ (by omega) (by omega)) _
theorem pr_link {b : Nat} {c : h_C} {m : h_M} (h : RR b c m) (hE : c 607 0 0 = m 102 0) (v1 v2 v3 : Int) : PR b (G_SW_link v1 v2 v3 c) (G_Mo_link v1 v2 v3 m) := by
  obtain ⟨w, hw, e1, e2⟩ := h.w
  by_cases hg : 0 ≤ v1 ∧ v1 < m 3 w
  case neg =>
    obtain ⟨r, c', m', x1, x2, x3⟩ := pr_refuse h (-1) (by omega)
    refine ⟨r, c', m', ?_, ?_, x3⟩
    · unfold G_SW_link
      simp only [e2, Int.toNat_natCast, q_eta, s_gearOf0 hw h.F hg, q_some]
      exact gdT (by omega) (ifF (by simp) x1)
    · unfold G_Mo_link
      simp only [s_noGear hw h.F e1, if_neg hg, q_some, q_eta]
      exact ifF (by decide) x2
  obtain ⟨g, rfl⟩ : ∃ g : Nat, v1 = (g : Int) := ⟨v1.toNat, by omega⟩
  obtain ⟨g40, i120, hj, eK, k0, k10, eL, l0, l8, lt, ln⟩ := h.gr hw hg.2
  obtain ⟨n1, n2, n3, _, _⟩ := (h.G.2 w g hw g40).1 hg.2
  unfold G_SW_link G_Mo_link GB_SW_link_32 GB_SW_link_68 GB_Mo_link_71 GB_Mo_link_87
  simp (discharger := omega) only [e1, e2, Int.toNat_natCast, q_eta, q_some, q_some2, s_gearOf hw h.F hg.2, s_noGear hw h.F e1, s_g hw e1 g40, s_beyond, s_cTaker hj, s_mTaker, s_cDivert hj, s_mDivert, s_mSides, s_cChute hj, s_mChute, eK, if_pos hg, gd1, p_w1, ne_eq, Nat.add_eq_zero_iff, Nat.succ_ne_zero, and_false, not_false_eq_true, not_true_eq_false, if_true, if_false, ↓reduceIte, bi1, n1]
  repeat' split
  all_goals first | (exfalso; omega) | exact pr_refuse h _ (by omega) | exact pr_fault h _ _ (by omega) (by omega) (by omega) | skip
  obtain ⟨k, rfl⟩ : ∃ k : Nat, v2 = (k : Int) := ⟨v2.toNat, by omega⟩
  rw [Int.toNat_natCast, show (3 * ((40 * w + g : Nat) : Int) + (k : Int)).toNat = 3 * (40 * w + g) + k by omega]
  exact pr_built (h.f2010 (by omega) _ (by omega)) _
theorem l_links {w g : Nat} (hw : w < 3) (hg : g < 40) (v2 : Int) {m : h_M} (e1 : m 100 0 = (w : Int)) (fu : Nat) : GO_Mo_links_50 (fu + 4) (g : Int) v2 0 m = G_Mo_built v2 (wm (wm (wm m 8 (3 * (40 * w + g)) (-1)) 8 (3 * (40 * w + g) + 1) (-1)) 8 (3 * (40 * w + g) + 2) (-1)) := by
  have st : ∀ (n k : Nat) (m : h_M), m 100 0 = (w : Int) → k < 3 → GO_Mo_links_50 (n + 1) (g : Int) v2 (k : Int) m = GO_Mo_links_50 n (g : Int) v2 ((k + 1 : Nat) : Int) (wm m 8 (3 * (40 * w + g) + k) (-1)) := by
    intro n k m e hk
    show GL_Mo_links_50 _ _ _ _ m = _
    unfold GL_Mo_links_50
    simp (discharger := omega) only [s_g hw e hg, q_some, p_w1, gd1, bi1]
    rw [if_neg (by omega), show (3 * ((40 * w + g : Nat) : Int) + (k : Int)).toNat = 3 * (40 * w + g) + k by omega, show (k : Int) + 1 = ((k + 1 : Nat) : Int) by omega]
  have h0 := st (fu + 3) 0 m e1 (by omega)
  have h1 := st (fu + 2) 1 (wm m 8 (3 * (40 * w + g) + 0) (-1)) (by simp [wm_at, e1]) (by omega)
  have h2 := st (fu + 1) 2 (wm (wm m 8 (3 * (40 * w + g) + 0) (-1)) 8 (3 * (40 * w + g) + 1) (-1)) (by simp [wm_at, e1]) (by omega)
  rw [show ((0 : Nat) : Int) = 0 from rfl] at h0
  rw [h0, h1, h2]
  show GL_Mo_links_50 _ _ _ _ _ = _
  unfold GL_Mo_links_50
  rw [if_pos (by omega), q_eta]
  rfl
theorem pr_links {b : Nat} {c : h_C} {m : h_M} (h : RR b c m) (hE : c 607 0 0 = m 102 0) (v1 v2 : Int) : PR b (G_SW_links v1 v2 c) (G_Mo_links v1 v2 m) := by
  obtain ⟨w, hw, e1, e2⟩ := h.w
  by_cases hg : 0 ≤ v1 ∧ v1 < m 3 w
  case neg =>
    obtain ⟨r, c', m', x1, x2, x3⟩ := pr_refuse h (-1) (by omega)
    refine ⟨r, c', m', ?_, ?_, x3⟩
    · unfold G_SW_links
      simp only [e2, Int.toNat_natCast, q_eta, s_gearOf0 hw h.F hg, q_some]
      exact gdT (by omega) (ifF (by simp) x1)
    · unfold G_Mo_links
      simp only [s_noGear hw h.F e1, if_neg hg, q_some, q_eta]
      exact ifF (by decide) x2
  obtain ⟨g, rfl⟩ : ∃ g : Nat, v1 = (g : Int) := ⟨v1.toNat, by omega⟩
  obtain ⟨g40, i120, hj, eK, k0, k10, eL, l0, l8, lt, ln⟩ := h.gr hw hg.2
  unfold G_SW_links G_Mo_links
  simp (discharger := omega) only [e1, e2, Int.toNat_natCast, q_eta, q_some, q_some2, s_gearOf hw h.F hg.2, s_noGear hw h.F e1, s_g hw e1 g40, s_beyond, s_cTaker hj, s_mTaker, s_cDivert hj, s_mDivert, s_mSides, s_cChute hj, s_mChute, eK, if_pos hg, gd1, p_w1, ne_eq, Nat.add_eq_zero_iff, Nat.succ_ne_zero, and_false, not_false_eq_true, not_true_eq_false, if_true, if_false, ↓reduceIte, bi1]
  repeat' split
  all_goals first | (exfalso; omega) | exact pr_refuse h _ (by omega) | exact pr_fault h _ _ (by omega) (by omega) (by omega) | skip
  have hl := l_links (m := wm m 7 (40 * w + g) v2) hw g40 v2 (by simp [wm_at, e1]) 2996
  rw [show 2996 + 4 = 3000 from rfl] at hl
  rw [hl, fl3, wc_comm _ _ _ (by omega), wc_comm (wc c 2010 (40 * w + g + 1) 0 (-1)) _ _ (by omega), wc_comm c _ _ (by omega)]
  have r1 := h.f3 hw hg.2 v2 (by omega)
  have r2 := r1.f2010 (i := 40 * w + g) (k := 0) (by omega) (-1) (by omega)
  have r3 := r2.f2010 (i := 40 * w + g) (k := 1) (by omega) (-1) (by omega)
  have r4 := r3.f2010 (i := 40 * w + g) (k := 2) (by omega) (-1) (by omega)
  exact pr_built r4 _
theorem pr_door {b : Nat} {c : h_C} {m : h_M} (h : RR b c m) (hE : c 607 0 0 = m 102 0) (v1 v2 : Int) (hv : v2 = 0 ∨ v2 = 1) : PR b (G_SW_door v1 v2 c) (G_Mo_door v1 v2 m) := by
  obtain ⟨w, hw, e1, e2⟩ := h.w
  by_cases hg : 0 ≤ v1 ∧ v1 < m 3 w
  case neg =>
    obtain ⟨r, c', m', x1, x2, x3⟩ := pr_refuse h (-1) (by omega)
    refine ⟨r, c', m', ?_, ?_, x3⟩
    · unfold G_SW_door
      simp only [e2, Int.toNat_natCast, q_eta, s_gearOf0 hw h.F hg, q_some]
      exact gdT (by omega) (ifF (by simp) x1)
    · unfold G_Mo_door
      simp only [s_noGear hw h.F e1, if_neg hg, q_some, q_eta]
      exact ifF (by decide) x2
  obtain ⟨g, rfl⟩ : ∃ g : Nat, v1 = (g : Int) := ⟨v1.toNat, by omega⟩
  obtain ⟨g40, i120, hj, eK, k0, k10, eL, l0, l8, lt, ln⟩ := h.gr hw hg.2
  obtain ⟨⟨a1, a2, _⟩, _⟩ := h.G.1 (40 * w + g)
  unfold G_SW_door G_Mo_door GB_SW_door_57 GB_Mo_door_53
  simp (discharger := omega) only [e1, e2, Int.toNat_natCast, q_eta, q_some, q_some2, s_gearOf hw h.F hg.2, s_noGear hw h.F e1, s_g hw e1 g40, s_beyond, s_cTaker hj, s_mTaker, s_cDivert hj, s_mDivert, s_mSides, s_cChute hj, s_mChute, eK, if_pos hg, gd1, p_w1, ne_eq, Nat.add_eq_zero_iff, Nat.succ_ne_zero, and_false, not_false_eq_true, not_true_eq_false, if_true, if_false, ↓reduceIte, bi1, a2]
  repeat' split
  all_goals first | (exfalso; omega) | exact pr_refuse h _ (by omega) | exact pr_fault h _ _ (by omega) (by omega) (by omega) | exact pr_done (h.f7 _ _ hv) _
theorem pr_release {b : Nat} {c : h_C} {m : h_M} (h : RR b c m) (hE : c 607 0 0 = m 102 0) (v1 v2 : Int) : PR b (G_SW_release v1 v2 c) (G_Mo_release v1 v2 m) := by
  obtain ⟨w, hw, e1, e2⟩ := h.w
  by_cases hg : 0 ≤ v1 ∧ v1 < m 3 w
  case neg =>
    obtain ⟨r, c', m', x1, x2, x3⟩ := pr_refuse h (-1) (by omega)
    refine ⟨r, c', m', ?_, ?_, x3⟩
    · unfold G_SW_release
      simp only [e2, Int.toNat_natCast, q_eta, s_gearOf0 hw h.F hg, q_some]
      exact gdT (by omega) (ifF (by simp) x1)
    · unfold G_Mo_release
      simp only [s_noGear hw h.F e1, if_neg hg, q_some, q_eta]
      exact ifF (by decide) x2
  obtain ⟨g, rfl⟩ : ∃ g : Nat, v1 = (g : Int) := ⟨v1.toNat, by omega⟩
  obtain ⟨g40, i120, hj, eK, k0, k10, eL, l0, l8, lt, ln⟩ := h.gr hw hg.2
  obtain ⟨⟨a1, a2, a3, a4, a5, a6, a7, a8, a9, a10⟩, _⟩ := h.G.1 (40 * w + g)
  unfold G_SW_release G_Mo_release GB_SW_release_29
  simp (discharger := omega) only [e1, e2, Int.toNat_natCast, q_eta, q_some, q_some2, s_gearOf hw h.F hg.2, s_noGear hw h.F e1, s_g hw e1 g40, s_beyond, s_cTaker hj, s_mTaker, s_cDivert hj, s_mDivert, s_mSides, s_cChute hj, s_mChute, eK, if_pos hg, gd1, p_w1, ne_eq, Nat.add_eq_zero_iff, Nat.succ_ne_zero, and_false, not_false_eq_true, not_true_eq_false, if_true, if_false, ↓reduceIte, bi1, a9]
  repeat' split
  all_goals first | (exfalso; omega) | exact pr_refuse h _ (by omega) | exact pr_fault h _ _ (by omega) (by omega) (by omega) | exact pr_done (h.f14 _ _ (by omega)) _
theorem pr_turn {b : Nat} {c : h_C} {m : h_M} (h : RR b c m) (hE : c 607 0 0 = m 102 0) (v1 v2 : Int) : PR b (G_SW_turn v1 v2 c) (G_Mo_turn v1 v2 m) := by
  obtain ⟨w, hw, e1, e2⟩ := h.w
  by_cases hg : 0 ≤ v1 ∧ v1 < m 3 w
  case neg =>
    obtain ⟨r, c', m', x1, x2, x3⟩ := pr_refuse h (-1) (by omega)
    refine ⟨r, c', m', ?_, ?_, x3⟩
    · unfold G_SW_turn
      simp only [e2, Int.toNat_natCast, q_eta, s_gearOf0 hw h.F hg, q_some]
      exact gdT (by omega) (ifF (by simp) x1)
    · unfold G_Mo_turn
      simp only [s_noGear hw h.F e1, if_neg hg, q_some, q_eta]
      exact ifF (by decide) x2
  obtain ⟨g, rfl⟩ : ∃ g : Nat, v1 = (g : Int) := ⟨v1.toNat, by omega⟩
  obtain ⟨g40, i120, hj, eK, k0, k10, eL, l0, l8, lt, ln⟩ := h.gr hw hg.2
  obtain ⟨⟨a1, a2, a3, a4, a5, a6, a7, a8, a9, a10⟩, _⟩ := h.G.1 (40 * w + g)
  unfold G_SW_turn G_Mo_turn GB_Mo_turn_53 GB_Mo_turn_71
  simp (discharger := omega) only [e1, e2, Int.toNat_natCast, q_eta, q_some, q_some2, s_gearOf hw h.F hg.2, s_noGear hw h.F e1, s_g hw e1 g40, s_beyond, s_cTaker hj, s_mTaker, s_cDivert hj, s_mDivert, s_mSides, s_cChute hj, s_mChute, eK, if_pos hg, gd1, p_w1, ne_eq, Nat.add_eq_zero_iff, Nat.succ_ne_zero, and_false, not_false_eq_true, not_true_eq_false, if_true, if_false, ↓reduceIte, bi1, a1, s_parcels h hw hg.2, s_load i120 l0 l8, s_cHasSide hj]
  by_cases k5 : m 5 (40 * w + g) = 5
  · simp (discharger := omega) only [k5, p_w1, gd1, s_beyond, q_some, if_true, or_true, true_or, ↓reduceIte, not_false_eq_true, not_true_eq_false, if_false]
    repeat' split
    all_goals first | (exfalso; omega) | exact pr_refuse h _ (by omega) | exact pr_fault h _ _ (by omega) (by omega) (by omega) | exact pr_done (h.f6 _ _ (by omega)) _
  · by_cases k6 : m 5 (40 * w + g) = 6
    · simp (discharger := omega) only [k5, k6, p_w1, gd1, s_beyond, q_some, if_true, or_true, true_or, ↓reduceIte, not_false_eq_true, not_true_eq_false, if_false]
      repeat' split
      all_goals first | (exfalso; omega) | exact pr_refuse h _ (by omega) | exact pr_fault h _ _ (by omega) (by omega) (by omega) | exact pr_done (h.f6 _ _ (by omega)) _
    · simp (discharger := omega) only [k5, k6, p_w1, gd1, s_beyond, q_some, if_true, or_true, true_or, ↓reduceIte, not_false_eq_true, not_true_eq_false, or_self, if_false]
      repeat' split
      all_goals first | (exfalso; omega) | exact pr_refuse h _ (by omega) | exact pr_fault h _ _ (by omega) (by omega) (by omega) | exact pr_done (h.f6 _ _ (by omega)) _
