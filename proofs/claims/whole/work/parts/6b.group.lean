theorem s_isGroup (v : Int) (c : h_C) : G_SW_isGroup v c = some (if 0 ≤ v ∧ v ≤ 3 then 1 else 0) := by
  unfold G_SW_isGroup
  repeat' split
  all_goals first | rfl | omega
theorem l_group {q : Nat} (hq : q < 12) (v3 : Int) (m : h_M) : ∃ m', eM [61] m m' ∧ (∀ x, m' 61 x = if 8 * q ≤ x ∧ x < 8 * q + 8 then 0 else m 61 x) ∧ GO_Mo_group_82 3000 v3 (q : Int) 0 m = G_Mo_well v3 m' := by
  have key : ∀ (d s fu : Nat) (m : h_M), s + d = 8 → d < fu → ∃ m', eM [61] m m' ∧ (∀ x, m' 61 x = if 8 * q + s ≤ x ∧ x < 8 * q + 8 then 0 else m 61 x) ∧ GO_Mo_group_82 fu v3 (q : Int) (s : Int) m = G_Mo_well v3 m' := by
    intro d
    induction d with
    | zero =>
      intro s fu m hs hf
      obtain ⟨fu, rfl⟩ : ∃ g, fu = g + 1 := ⟨fu - 1, by omega⟩
      refine ⟨m, eM.rf _ _, fun x => by rw [if_neg (by omega)], ?_⟩
      show GL_Mo_group_82 _ _ _ _ m = _
      unfold GL_Mo_group_82
      rw [if_pos (by omega), q_eta]
    | succ d ih =>
      intro s fu m hs hf
      obtain ⟨fu, rfl⟩ : ∃ g, fu = g + 1 := ⟨fu - 1, by omega⟩
      obtain ⟨m', n1, n2, n3⟩ := ih (s + 1) fu (wm m 61 (8 * q + s) 0) (by omega) (by omega)
      refine ⟨m', ((eM.rf _ _).wm (by decide) _ _).tr n1, fun x => ?_, ?_⟩
      · rw [n2 x]
        simp only [wm_at]
        by_cases e : x = 8 * q + s
        · rw [if_neg (by omega), if_pos (by simp [e]), if_pos (by omega)]
        · by_cases e2 : 8 * q + (s + 1) ≤ x ∧ x < 8 * q + 8
          · rw [if_pos e2, if_pos (by omega)]
          · rw [if_neg e2, if_neg (by omega), if_neg (by omega)]
      · show GL_Mo_group_82 _ _ _ _ m = _
        unfold GL_Mo_group_82
        simp (discharger := omega) only [p_w1, gd1, bi1]
        rw [if_neg (by omega), show (8 * (q : Int) + (s : Int)).toNat = 8 * q + s by omega, show (s : Int) + 1 = ((s + 1 : Nat) : Int) by omega, n3]
  exact key 8 0 3000 m (by omega) (by omega)
theorem pr_group {b : Nat} {c : h_C} {m : h_M} (h : RR b c m) (hE : c 607 0 0 = m 102 0) (v1 v2 v3 : Int) : PR b (G_SW_group v1 v2 v3 c) (G_Mo_group v1 v2 v3 m) := by
  obtain ⟨w, hw, e1, e2⟩ := h.w
  by_cases hv : (0 ≤ v1 ∧ v1 ≤ 3) ∧ (0 ≤ v2 ∧ v2 ≤ 3) ∧ 0 ≤ v3 ∧ v3 ≤ 8
  · obtain ⟨i, rfl⟩ : ∃ i : Nat, v1 = (i : Int) := ⟨v1.toNat, by omega⟩
    obtain ⟨m', n1, n2, n3⟩ := l_group (q := 4 * w + i) (by omega) v3 (wm (wm m 59 (4 * w + i) v3) 60 (4 * w + i) v2)
    have hC : G_SW_group (i : Int) v2 v3 c = G_SW_done v3 (sr (wc (wc c 2035 w i v2) 2036 w i v3) 2034 (4 * w + i) (fl (c 2034 (4 * w + i)) 8 (-1))) := by
      have k1 : (wc c 2035 w i v2) 5000 0 0 = (w : Int) := by simp [wc_at, e2]
      have k2 : (wc (wc c 2035 w i v2) 2036 w i v3) 5000 0 0 = (w : Int) := by simp [wc_at, e2]
      have k3 : (wc (wc c 2035 w i v2) 2036 w i v3) 2034 (4 * w + i) = c 2034 (4 * w + i) := by funext x; simp [wc_at]
      unfold G_SW_group
      simp (discharger := omega) only [s_isGroup, q_some, q_eta, if_pos hv.1, e2, Int.toNat_natCast, gd1, bi1, k1, k2, k3]
      rw [if_pos (by decide), if_neg (by omega), if_neg (by omega), if_pos (by omega), if_pos (by omega)]
    have hM : G_Mo_group (i : Int) v2 v3 m = G_Mo_well v3 m' := by
      unfold G_Mo_group
      rw [s_beyond0 m hv.1, q_some, if_pos rfl, s_beyond0 m hv.2.1, q_some, if_neg (by decide), if_pos (by omega), if_pos (by omega)]
      simp (discharger := omega) only [e1, p_w1, bi1, gd1, show (4 * (w : Int) + (i : Int)).toNat = 4 * w + i by omega]
      rw [show 4 * (w : Int) + (i : Int) = ((4 * w + i : Nat) : Int) by omega]
      exact n3
    rw [hC, hM]
    have nM : eM [59, 60, 61] m m' := (((eM.rf _ _).wm (by decide) _ _).wm (by decide) _ _).tr (n1.up (by decide))
    have r59 : ∀ x, m' 59 x = if x = 4 * w + i then v3 else m 59 x := fun x => by rw [n1 59 (by decide)]; simp [wm_at]
    have r60 : ∀ x, m' 60 x = if x = 4 * w + i then v2 else m 60 x := fun x => by rw [n1 60 (by decide)]; simp [wm_at]
    have r61 : ∀ x, m' 61 x = if 8 * (4 * w + i) ≤ x ∧ x < 8 * (4 * w + i) + 8 then 0 else m 61 x := fun x => by rw [n2 x]; simp [wm_at]
    refine pr_done (RR.gen [2034, 2035, 2036] [59, 60, 61] h (by repeat first | exact eC.rf _ _ | refine eC.wc ?_ (by decide) _ _ _ | refine eC.sr ?_ (by decide) _ _) nM (Or.inl ⟨rfl, rfl⟩) (Or.inl ⟨rfl, rfl⟩) (Or.inl ⟨rfl, rfl⟩) (Or.inl ⟨rfl, rfl⟩) (Or.inl ⟨rfl, rfl⟩) (Or.inl ⟨rfl, rfl⟩) (Or.inl ⟨rfl, rfl⟩) (Or.inl ⟨rfl, rfl⟩) (Or.inl ⟨rfl, rfl⟩) (Or.inr ?_) (Or.inl ⟨rfl, rfl⟩) (Or.inl ⟨rfl, rfl⟩)) _ (by simp [wc_at, sr_at]; rw [nM 102 (by decide)]; exact hE)
    intro w' i' hw' hi'
    obtain ⟨q1, q2, q3, q4, q5, q6, q7⟩ := h.V w' i' hw' hi'
    have g3 := (h.F.1 w').2.1
    rw [r59, r60, nM 3 (by decide)]
    by_cases e : w' = w ∧ i' = i
    · obtain ⟨rfl, rfl⟩ := e
      rw [if_pos rfl, if_pos rfl]
      refine ⟨by simp [wc_at, sr_at], by omega, by omega, by simp [wc_at, sr_at], by omega, by omega, fun k k8 kl => ?_⟩
      rw [r61, if_pos (by omega)]
      refine ⟨?_, by omega, by omega⟩
      simp [sr_at, fl_at, k8]
    · have e' : ¬ (4 * w' + i' = 4 * w + i) := by omega
      rw [if_neg e', if_neg e']
      refine ⟨?_, q2, q3, ?_, q5, q6, fun k k8 kl => ?_⟩
      · simp only [sr_at, wc_at]
        rw [if_neg (by omega), if_neg (by omega), if_neg (by omega)]
        exact q1
      · simp only [sr_at, wc_at]
        rw [if_neg (by omega), if_neg (by omega), if_neg (by omega)]
        exact q4
      · obtain ⟨z1, z2, z3⟩ := q7 k k8 kl
        rw [r61, if_neg (by omega)]
        refine ⟨?_, z2, z3⟩
        simp only [sr_at, wc_at]
        rw [if_neg (by omega), if_neg (by omega), if_neg (by omega)]
        exact z1
  · unfold G_SW_group G_Mo_group GB_SW_group_28 GB_Mo_group_36
    simp only [s_isGroup, s_beyond, q_some, q_eta]
    by_cases c1 : 0 ≤ v1 ∧ v1 ≤ 3
    · simp only [if_pos c1]
      by_cases c2 : 0 ≤ v2 ∧ v2 ≤ 3
      · simp only [if_pos c2, if_neg (show ¬ v2 < 0 by omega), if_neg (show ¬ 3 < v2 by omega), ne_eq, not_true_eq_false, if_false, if_true, show ¬ ((1 : Int) = 0) by decide, not_false_eq_true]
        by_cases c3 : v3 ≤ 8
        · simp only [if_pos c3, if_neg (show ¬ 0 ≤ v3 by omega)]
          exact pr_fault h _ _ (by omega) (by omega) (by omega)
        · simp only [if_neg c3]
          exact pr_refuse h _ (by omega)
      · simp only [if_neg c2, ne_eq, not_true_eq_false, if_false, if_true, show ¬ ((1 : Int) = 0) by decide, not_false_eq_true]
        by_cases c3 : v2 < 0
        · simp only [if_pos c3]
          exact pr_refuse h _ (by omega)
        · simp only [if_neg c3, if_pos (show 3 < v2 by omega)]
          exact pr_refuse h _ (by omega)
    · simp only [if_neg c1, ne_eq, not_true_eq_false, if_false, if_true, show ¬ ((1 : Int) = 0) by decide]
      exact pr_refuse h _ (by omega)
theorem pr_enter {b : Nat} {c : h_C} {m : h_M} (h : RR b c m) (hE : c 607 0 0 = m 102 0) (v1 v2 v3 : Int) : PR b (G_SW_enter v1 v2 v3 c) (G_Mo_enter v1 v2 v3 m) := by
  obtain ⟨w, hw, e1, e2⟩ := h.w
  by_cases hv : (0 ≤ v1 ∧ v1 ≤ 3) ∧ 0 ≤ v3 ∧ v3 < m 3 w
  case neg =>
    obtain ⟨r, c', m', x1, x2, x3⟩ := pr_refuse h (-1) (by omega)
    refine ⟨r, c', m', ?_, ?_, x3⟩
    · unfold G_SW_enter GB_SW_enter_22
      by_cases hg : 0 ≤ v3 ∧ v3 < m 3 w
      · obtain ⟨g, rfl⟩ : ∃ g : Nat, v3 = (g : Int) := ⟨v3.toNat, by omega⟩
        simp only [e2, Int.toNat_natCast, s_gearOf hw h.F hg.2, s_isGroup, if_neg (show ¬ (0 ≤ v1 ∧ v1 ≤ 3) from fun z => hv ⟨z, hg⟩), q_some, q_eta]
        first | exact gdT (by omega) x1 | exact gdT (by omega) (ifT rfl x1)
      · simp only [e2, Int.toNat_natCast, s_gearOf0 hw h.F hg, s_isGroup, q_some, q_eta]
        refine gdT (by omega) ?_
        by_cases hb : 0 ≤ v1 ∧ v1 ≤ 3
        · simp only [if_pos hb, show ¬ ((1 : Int) = 0) by decide, if_false, ne_eq, not_true_eq_false]
          exact x1
        · simp only [if_neg hb, if_true]
          exact x1
    · unfold G_Mo_enter GB_Mo_enter_20
      by_cases hb : 0 ≤ v1 ∧ v1 ≤ 3
      · rw [s_beyond0 m hb, q_some, if_neg (by decide), s_noGear hw h.F e1, if_neg (fun z => hv ⟨hb, z⟩), q_some, if_neg (by decide), q_eta]
        exact x2
      · rw [s_beyond1 m hb, q_some, if_pos (by decide), q_eta]
        exact x2
  obtain ⟨i, rfl⟩ : ∃ i : Nat, v1 = (i : Int) := ⟨v1.toNat, by omega⟩
  obtain ⟨g, rfl⟩ : ∃ g : Nat, v3 = (g : Int) := ⟨v3.toNat, by omega⟩
  obtain ⟨g40, i120, hj, eK, k0, k10, eL, l0, l8, lt, ln⟩ := h.gr hw hv.2.2
  obtain ⟨q1, q2, q3, q4, q5, q6, q7⟩ := h.V w i hw (by omega)
  unfold G_SW_enter G_Mo_enter GB_SW_enter_65 GB_Mo_enter_101
  rw [s_beyond0 m hv.1, q_some, if_neg (by decide), s_noGear hw h.F e1, if_pos hv.2, q_some, if_pos rfl]
  simp (discharger := omega) only [e1, e2, Int.toNat_natCast, s_gearOf hw h.F hv.2.2, s_isGroup, if_pos hv.1, q_some, q_eta, gd1, p_w1, bi1, show (4 * (w : Int) + (i : Int)).toNat = 4 * w + i by omega, q1, q4, s_beyond, s_g hw e1 g40, s_mType, s_cType hj (m 60 (4 * w + i)) ⟨q5, q6⟩ c (by omega), eK, show ¬ ((1 : Int) = 0) by decide, if_false, ne_eq, Nat.add_eq_zero_iff, Nat.succ_ne_zero, and_false, not_false_eq_true, if_true, show ¬ ((4 : Int) ≤ 0) by decide, show ¬ ((3 : Int) ≤ 0) by decide, show ¬ ((1 : Int) ≤ 0) by decide, show (0 : Int) ≤ 0 by decide]
  by_cases c1 : m 59 (4 * w + i) = -1
  · simp only [c1, not_true_eq_false, if_false, show ¬ ((0 : Int) ≤ -1) by decide]
    exact pr_fault h _ _ (by omega) (by omega) (by omega)
  simp only [c1, not_false_eq_true, if_true, show 0 ≤ m 59 (4 * w + i) by omega]
  by_cases c2 : 0 ≤ v2 ∧ v2 ≤ m 59 (4 * w + i) - 1
  case neg =>
    simp only [if_neg c2, show ¬ ((1 : Int) = 0) by decide, if_false]
    by_cases c3 : v2 < 0
    · simp only [if_pos c3]
      exact pr_fault h _ _ (by omega) (by omega) (by omega)
    · simp only [if_neg c3, if_neg (show ¬ v2 < m 59 (4 * w + i) by omega)]
      exact pr_fault h _ _ (by omega) (by omega) (by omega)
  obtain ⟨k, rfl⟩ : ∃ k : Nat, v2 = (k : Int) := ⟨v2.toNat, by omega⟩
  simp only [if_pos c2, if_neg (show ¬ (k : Int) < 0 by omega), if_pos (show (k : Int) < m 59 (4 * w + i) by omega), if_true]
  by_cases c4 : m 60 (4 * w + i) = 0 ∨ m 60 (4 * w + i) = 1 ∧ m 5 (40 * w + g) < 5 ∨ m 60 (4 * w + i) = 2 ∧ (m 5 (40 * w + g) = 3 ∨ m 5 (40 * w + g) = 4) ∨ m 60 (4 * w + i) = 3 ∧ (m 5 (40 * w + g) = 7 ∨ m 5 (40 * w + g) = 8)
  case neg =>
    simp only [if_neg c4, not_true_eq_false, if_false]
    exact pr_fault h _ _ (by omega) (by omega) (by omega)
  simp only [if_pos c4, show ¬ ((1 : Int) = 0) by decide, not_false_eq_true, if_true]
  rw [Int.toNat_natCast, show (8 * (4 * (w : Int) + (i : Int)) + (k : Int)).toNat = 8 * (4 * w + i) + k by omega]
  refine pr_done (RR.gen [2034] [61] h (by repeat first | exact eC.rf _ _ | refine eC.wc ?_ (by decide) _ _ _ | refine eC.sr ?_ (by decide) _ _) (by repeat first | exact eM.rf _ _ | refine eM.wm ?_ (by decide) _ _) (Or.inl ⟨rfl, rfl⟩) (Or.inl ⟨rfl, rfl⟩) (Or.inl ⟨rfl, rfl⟩) (Or.inl ⟨rfl, rfl⟩) (Or.inl ⟨rfl, rfl⟩) (Or.inl ⟨rfl, rfl⟩) (Or.inl ⟨rfl, rfl⟩) (Or.inl ⟨rfl, rfl⟩) (Or.inl ⟨rfl, rfl⟩) (Or.inr ?_) (Or.inl ⟨rfl, rfl⟩) (Or.inl ⟨rfl, rfl⟩)) _
  intro w' i' hw' hi'
  obtain ⟨p1, p2, p3, p4, p5, p6, p7⟩ := h.V w' i' hw' hi'
  refine ⟨by simpa [wc_at, wm_at] using p1, by simpa [wm_at] using p2, by simpa [wm_at] using p3, by simpa [wc_at, wm_at] using p4, by simpa [wm_at] using p5, by simpa [wm_at] using p6, fun k' k8 kl => ?_⟩
  have z := p7 k' k8 (by simpa [wm_at] using kl)
  simp only [wc_at, wm_at]
  by_cases e : w' = w ∧ i' = i ∧ k' = k
  · obtain ⟨rfl, rfl, rfl⟩ := e
    simp
    omega
  · rw [if_neg (by omega), if_neg (by omega), if_neg (by omega)]
    exact z
theorem pr_tally {b : Nat} {c : h_C} {m : h_M} (h : RR b c m) (hE : c 607 0 0 = m 102 0) (v1 v2 : Int) : PR b (G_SW_tally v1 v2 c) (G_Mo_tally v1 v2 m) := by
  obtain ⟨w, hw, e1, e2⟩ := h.w
  unfold G_SW_tally G_Mo_tally GB_SW_tally_22
  simp only [s_isGroup, s_beyond, q_some, q_eta]
  by_cases c1 : 0 ≤ v1 ∧ v1 ≤ 3
  case neg =>
    simp only [if_neg c1, ne_eq, not_true_eq_false, if_false, show ¬ ((1 : Int) = 0) by decide]
    exact pr_refuse h _ (by omega)
  obtain ⟨i, rfl⟩ : ∃ i : Nat, v1 = (i : Int) := ⟨v1.toNat, by omega⟩
  simp only [if_pos c1, ne_eq, show ¬ ((1 : Int) = 0) by decide, not_false_eq_true, if_true]
  by_cases c2 : 0 ≤ v2 ∧ v2 ≤ 2
  case neg =>
    simp only [if_neg c2, show ¬ ((1 : Int) = 0) by decide, if_false]
    by_cases c3 : v2 < 0
    · simp only [if_pos c3]
      exact pr_refuse h _ (by omega)
    · simp only [if_neg c3, if_neg (show ¬ v2 ≤ 2 by omega)]
      exact pr_refuse h _ (by omega)
  obtain ⟨q1, q2, q3, q4, q5, q6, q7⟩ := h.V w i hw (by omega)
  have g3 := (h.F.1 w).2
  simp (discharger := omega) only [if_pos c2, if_neg (show ¬ v2 < 0 by omega), if_pos c2.2, e1, e2, Int.toNat_natCast, gd1, p_w1, bi1, if_true, show (4 * (w : Int) + (i : Int)).toNat = 4 * w + i by omega, q1]
  by_cases c3 : m 59 (4 * w + i) = -1
  · simp only [c3, not_true_eq_false, if_false, show ¬ ((0 : Int) ≤ -1) by decide]
    exact pr_fault h _ _ (by omega) (by omega) (by omega)
  simp only [c3, not_false_eq_true, if_true, show 0 ≤ m 59 (4 * w + i) by omega]
  have key : ∀ (d k fu : Nat) (s : Int), k + d = (m 59 (4 * w + i)).toNat → d < fu → PR b (GO_SW_tally_54 fu (i : Int) v2 s (k : Int) c) (GO_Mo_tally_67 fu v2 (4 * (w : Int) + (i : Int)) s (k : Int) m) := by
    intro d
    induction d with
    | zero =>
      intro k fu s hk hf
      obtain ⟨fu, rfl⟩ : ∃ g, fu = g + 1 := ⟨fu - 1, by omega⟩
      show PR b (GL_SW_tally_54 _ _ _ _ _ c) (GL_Mo_tally_67 _ _ _ _ _ m)
      unfold GL_SW_tally_54 GL_Mo_tally_67
      simp (discharger := omega) only [e2, Int.toNat_natCast, gd1, q1, show (4 * (w : Int) + (i : Int)).toNat = 4 * w + i by omega, if_pos (show m 59 (4 * w + i) ≤ (k : Int) by omega), q_eta]
      exact pr_done h _
    | succ d ih =>
      intro k fu s hk hf
      obtain ⟨fu, rfl⟩ : ∃ g, fu = g + 1 := ⟨fu - 1, by omega⟩
      obtain ⟨z1, z2, z3⟩ := q7 k (by omega) (by omega)
      show PR b (GL_SW_tally_54 _ _ _ _ _ c) (GL_Mo_tally_67 _ _ _ _ _ m)
      unfold GL_SW_tally_54 GL_Mo_tally_67 GB_SW_tally_132 GB_Mo_tally_154
      by_cases c4 : m 61 (8 * (4 * w + i) + k) = 0
      · simp (discharger := omega) only [e2, Int.toNat_natCast, gd1, q1, show (4 * (w : Int) + (i : Int)).toNat = 4 * w + i by omega, if_neg (show ¬ m 59 (4 * w + i) ≤ (k : Int) by omega), q_eta, z1, p_w1, bi1, show (8 * (4 * (w : Int) + (i : Int)) + (k : Int)).toNat = 8 * (4 * w + i) + k by omega, c4, s_gearOf0 hw h.F (show ¬ (0 ≤ (0 : Int) - 1 ∧ (0 : Int) - 1 < m 3 w) by omega), q_some, show ¬ ((0 : Int) ≤ 0 - 1) by decide, if_false, ne_eq, not_true_eq_false]
        exact pr_fault h _ _ (by omega) (by omega) (by omega)
      · obtain ⟨g, hg⟩ : ∃ g : Nat, m 61 (8 * (4 * w + i) + k) - 1 = (g : Int) := ⟨(m 61 (8 * (4 * w + i) + k) - 1).toNat, by omega⟩
        have hgl : (g : Int) < m 3 w := by omega
        obtain ⟨g40, i120, hj, eK, k0, k10, eL, l0, l8, lt, ln⟩ := h.gr hw hgl
        have a5 := (h.G.1 (40 * w + g)).1.2.2.2.2.1
        have a6 := (h.G.1 (40 * w + g)).1.2.2.2.2.2.1
        simp (discharger := omega) only [e2, Int.toNat_natCast, gd1, q1, show (4 * (w : Int) + (i : Int)).toNat = 4 * w + i by omega, if_neg (show ¬ m 59 (4 * w + i) ≤ (k : Int) by omega), q_eta, z1, bi1, p_w1 (x := 8 * (4 * (w : Int) + (i : Int))), p_w1 (x := 8 * (4 * (w : Int) + (i : Int)) + (k : Int)), p_w1 (x := (g : Int)), p_w1 (x := ((k + 1 : Nat) : Int)), p_w1 (x := (k : Int) + 1), show (8 * (4 * (w : Int) + (i : Int)) + (k : Int)).toNat = 8 * (4 * w + i) + k by omega, hg, s_gearOf hw h.F hgl, s_g hw e1 g40, s_parcels h hw hgl, s_load i120 l0 l8, a5, a6, q_some, show (0 : Int) ≤ (g : Int) by omega, if_true, ne_eq, Nat.add_eq_zero_iff, Nat.succ_ne_zero, and_false, not_false_eq_true, show (k : Int) + 1 = ((k + 1 : Nat) : Int) by omega]
        repeat' split
        all_goals first | exact ih (k + 1) fu _ (by omega) (by omega) | (exfalso; omega)
  exact key (m 59 (4 * w + i)).toNat 0 3000 0 (by omega) (by omega)
