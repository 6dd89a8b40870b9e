theorem pr_count {b : Nat} {c : h_C} {m : h_M} (h : RR b c m) (hE : c 607 0 0 = m 102 0) (v1 : Int) : PP (G_SW_count v1 c) (G_Mo_count v1 m) := by
  obtain ⟨w, hw, e1, e2⟩ := h.w
  unfold G_SW_count G_Mo_count
  have hv : v1 = 0 ∨ v1 = 1 ∨ v1 = 2 ∨ v1 = 3 ∨ v1 = 4 ∨ v1 = 5 ∨ v1 = 6 ∨ v1 = 7 ∨ v1 = 8 ∨ v1 = 9 ∨ v1 = 10 ∨ v1 = 11 ∨ v1 = 12 ∨ v1 = 13 ∨ (v1 < 0 ∨ 13 < v1) := by omega
  rcases hv with rfl | rfl | rfl | rfl | rfl | rfl | rfl | rfl | rfl | rfl | rfl | rfl | rfl | rfl | hv
  case inr.inr.inr.inr.inr.inr.inr.inr.inr.inr.inr.inr.inr.inr =>
    simp only [show ¬ v1 = 0 by omega, show ¬ v1 = 1 by omega, show ¬ v1 = 2 by omega, show ¬ v1 = 3 by omega, show ¬ v1 = 4 by omega, show ¬ v1 = 5 by omega, show ¬ v1 = 6 by omega, show ¬ v1 = 7 by omega, show ¬ v1 = 8 by omega, show ¬ v1 = 9 by omega, show ¬ v1 = 10 by omega, show ¬ v1 = 11 by omega, show ¬ v1 = 12 by omega, show ¬ v1 = 13 by omega, e1, e2, Int.toNat_natCast, gd1 (show 0 ≤ (w : Int) ∧ (w : Int) < 3 by omega), (h.F.1 w).1, (h.P.2.2.2.2 w hw).1, (h.S w hw).2.2.2, (h.L w hw).2.2.2.1, (h.L w hw).1.2.2.1, (h.U w hw).1.1, (h.S w hw).1, hE, (h.K w hw).1.1, (h.T w hw).1, h.A.2.2.2.2.2.1, (h.Q w hw).1, h.A.2.2.2.2.2.2.2.2.2 w hw, h.N.1, ↓reduceIte, if_true, if_false]
    exact PP.rf _
  all_goals
    simp [e1, e2, Int.toNat_natCast, gd1 (show 0 ≤ (w : Int) ∧ (w : Int) < 3 by omega), (h.F.1 w).1, (h.P.2.2.2.2 w hw).1, (h.S w hw).2.2.2, (h.L w hw).2.2.2.1, (h.L w hw).1.2.2.1, (h.U w hw).1.1, (h.S w hw).1, hE, (h.K w hw).1.1, (h.T w hw).1, h.A.2.2.2.2.2.1, (h.Q w hw).1, h.A.2.2.2.2.2.2.2.2.2 w hw, h.N.1, ↓reduceIte, if_true, if_false]
    first | exact PP.rf _ | (simp only [gd1 (show (w : Int) < 3 by omega)]; exact PP.rf _)
theorem pr_letter {b : Nat} {c : h_C} {m : h_M} (h : RR b c m) (hE : c 607 0 0 = m 102 0) (v1 : Int) : PR b (G_SW_letter v1 c) (G_Mo_letter v1 m) := by
  obtain ⟨a1, a2, a3, a4, a5, a6, a7, a8, a9, a10⟩ := h.A
  by_cases hv : 33 ≤ v1 ∧ v1 ≤ 126
  case neg =>
    obtain ⟨r, c', m', x1, x2, x3⟩ := pr_refuse h (-2) (by omega)
    refine ⟨r, c', m', ?_, ?_, x3⟩
    · unfold G_SW_letter GB_SW_letter_12
      simp only [q_eta]
      by_cases h0 : v1 < 33
      · exact ifT h0 x1
      · exact ifF h0 (ifF (by omega) x1)
    · unfold G_Mo_letter
      simp only [s_beyond1 m hv, q_some, q_eta]
      exact ifF (by decide) x2
  by_cases hf : m 147 0 = 200
  · obtain ⟨r, c', m', x1, x2, x3⟩ := pr_refuse h (-4) (by omega)
    refine ⟨r, c', m', ?_, ?_, x3⟩
    · unfold G_SW_letter
      simp only [q_eta, a6]
      exact ifF (by omega) (ifT (by omega) (ifF (by omega) x1))
    · unfold G_Mo_letter
      simp only [s_beyond0 m hv, q_some, q_eta, hf, ne_eq, not_true_eq_false, if_false, if_true]
      exact x2
  obtain ⟨t, ht⟩ : ∃ t : Nat, m 147 0 = (t : Int) := ⟨(m 147 0).toNat, by omega⟩
  have q1 : (wc c 2042 0 t v1) 606 0 0 = (t : Int) := by rw [wc_at, if_neg (by omega), a6, ht]
  have q2 : (wm m 46 t v1) 147 0 = (t : Int) := by rw [wm_at, if_neg (by omega), ht]
  have q3 : (wc (wc c 2042 0 t v1) 606 0 0 ((t : Int) + 1)) 606 0 0 = (t : Int) + 1 := by rw [wc_at, if_pos ⟨rfl, rfl, rfl⟩]
  have q4 : (wm (wm m 46 t v1) 147 0 ((t : Int) + 1)) 147 0 = (t : Int) + 1 := by rw [wm_at, if_pos ⟨rfl, rfl⟩]
  have hC : G_SW_letter v1 c = G_SW_done ((t : Int) + 1) (wc (wc c 2042 0 t v1) 606 0 0 ((t : Int) + 1)) := by
    unfold G_SW_letter
    rw [if_neg (show ¬ v1 < 33 by omega), if_pos hv.2, a6, ht, if_pos (show (t : Int) < 200 by omega), gd1 (by omega), Int.toNat_natCast]
    refine bX (bX ?_)
    rw [q1, p_w1 (by omega) (by omega), q3, q_eta]
  have hM : G_Mo_letter v1 m = G_Mo_well ((t : Int) + 1) (wm (wm m 46 t v1) 147 0 ((t : Int) + 1)) := by
    unfold G_Mo_letter
    rw [s_beyond0 m hv, q_some, if_pos rfl, ht, if_pos (show (t : Int) ≠ 200 by omega), gd1 (by omega), Int.toNat_natCast]
    refine bX (bX ?_)
    rw [q2, p_w1 (by omega) (by omega), q4, q_eta]
  rw [hC, hM]
  refine pr_done (RR.gen [2042, 606] [46, 147] h (by repeat first | exact eC.rf _ _ | refine eC.wc ?_ (by decide) _ _ _ | refine eC.sr ?_ (by decide) _ _) (by repeat first | exact eM.rf _ _ | refine eM.wm ?_ (by decide) _ _) (Or.inr ?_) (Or.inl ⟨rfl, rfl⟩) (Or.inl ⟨rfl, rfl⟩) (Or.inl ⟨rfl, rfl⟩) (Or.inl ⟨rfl, rfl⟩) (Or.inl ⟨rfl, rfl⟩) (Or.inl ⟨rfl, rfl⟩) (Or.inl ⟨rfl, rfl⟩) (Or.inl ⟨rfl, rfl⟩) (Or.inl ⟨rfl, rfl⟩) (Or.inl ⟨rfl, rfl⟩) (Or.inl ⟨rfl, rfl⟩)) _
  refine ⟨by simp [wc_at, wm_at, a1], by simp [wm_at, a2], by simp [wm_at, a3], by simp [wc_at, wm_at, a4], by simp [wm_at, a5], by simp [wc_at, wm_at], by simp [wm_at]; omega, by simp [wm_at]; omega, fun k => by simp [wc_at, wm_at, a9], fun w hw => by simp [wc_at, a10 w hw]⟩
theorem pr_plan {b : Nat} {c : h_C} {m : h_M} (h : RR b c m) (hE : c 607 0 0 = m 102 0) (v1 v2 v3 v4 v5 : Int) : PR b (G_SW_plan v1 v2 v3 v4 v5 c) (G_Mo_plan v1 v2 v3 v4 v5 m) := by
  obtain ⟨w, hw, e1, e2⟩ := h.w
  obtain ⟨a1, a2, a3, a4⟩ := h.Q w hw
  by_cases hv : (1 ≤ v1 ∧ v1 ≤ 4) ∧ 0 ≤ v2 ∧ v2 ≤ 9999 ∧ m 56 w < 16
  · obtain ⟨n, hn⟩ : ∃ n : Nat, m 56 w = (n : Int) := ⟨(m 56 w).toNat, by omega⟩
    have hC : G_SW_plan v1 v2 v3 v4 v5 c = G_SW_built (n : Int) (wc (wc (wc (wc (wc (wc c 206 w 0 ((n : Int) + 1)) 2031 (16 * w + n) 0 v2) 2031 (16 * w + n) 1 v3) 2031 (16 * w + n) 2 v4) 2031 (16 * w + n) 3 v5) 2032 w n v1) := by
      unfold G_SW_plan
      rw [if_neg (by omega), if_neg (by omega), if_neg (by omega), if_pos (by omega)]
      have k1 : (wc c 206 w 0 ((n : Int) + 1)) 5000 0 0 = (w : Int) := by simp [wc_at, e2]
      have k2 : (wc (wc (wc (wc (wc c 206 w 0 ((n : Int) + 1)) 2031 (16 * w + n) 0 v2) 2031 (16 * w + n) 1 v3) 2031 (16 * w + n) 2 v4) 2031 (16 * w + n) 3 v5) 5000 0 0 = (w : Int) := by simp [wc_at, e2]
      simp (discharger := omega) only [e2, Int.toNat_natCast, gd1, a1, hn, bi1, p_w1, k1, q_eta, Int.toNat_zero, Int.toNat_one, show (2 : Int).toNat = 2 from rfl, show (3 : Int).toNat = 3 from rfl, k2]
      rw [if_pos (by omega)]
    have hM : G_Mo_plan v1 v2 v3 v4 v5 m = G_Mo_built (n : Int) (wm (wm (wm (wm (wm (wm m 57 (16 * w + n) v1) 58 (4 * (16 * w + n)) v2) 58 (4 * (16 * w + n) + 1) v3) 58 (4 * (16 * w + n) + 2) v4) 58 (4 * (16 * w + n) + 3) v5) 56 w ((n : Int) + 1)) := by
      unfold G_Mo_plan
      have k1 : (wm (wm (wm (wm (wm m 57 (16 * w + n) v1) 58 (4 * (16 * w + n)) v2) 58 (4 * (16 * w + n) + 1) v3) 58 (4 * (16 * w + n) + 2) v4) 58 (4 * (16 * w + n) + 3) v5) 100 0 = (w : Int) := by simp [wm_at, e1]
      have k2 : (wm (wm (wm (wm (wm m 57 (16 * w + n) v1) 58 (4 * (16 * w + n)) v2) 58 (4 * (16 * w + n) + 1) v3) 58 (4 * (16 * w + n) + 2) v4) 58 (4 * (16 * w + n) + 3) v5) 56 w = (n : Int) := by simp [wm_at, hn]
      have k3 : (wm (wm (wm (wm (wm (wm m 57 (16 * w + n) v1) 58 (4 * (16 * w + n)) v2) 58 (4 * (16 * w + n) + 1) v3) 58 (4 * (16 * w + n) + 2) v4) 58 (4 * (16 * w + n) + 3) v5) 56 w ((n : Int) + 1)) 100 0 = (w : Int) := by simp [wm_at, e1]
      have k4 : (wm (wm (wm (wm (wm (wm m 57 (16 * w + n) v1) 58 (4 * (16 * w + n)) v2) 58 (4 * (16 * w + n) + 1) v3) 58 (4 * (16 * w + n) + 2) v4) 58 (4 * (16 * w + n) + 3) v5) 56 w ((n : Int) + 1)) 56 w = (n : Int) + 1 := by simp [wm_at]
      rw [s_beyond0 m hv.1, q_some, if_neg (by decide), s_beyond0 m (by omega), q_some, if_pos rfl]
      simp (discharger := omega) only [e1, Int.toNat_natCast, gd1, hn, bi1, p_w1, q_eta, show (16 * (w : Int) + (n : Int)).toNat = 16 * w + n by omega, show (4 * (16 * (w : Int) + (n : Int))).toNat = 4 * (16 * w + n) by omega, show (4 * (16 * (w : Int) + (n : Int)) + 1).toNat = 4 * (16 * w + n) + 1 by omega, show (4 * (16 * (w : Int) + (n : Int)) + 2).toNat = 4 * (16 * w + n) + 2 by omega, show (4 * (16 * (w : Int) + (n : Int)) + 3).toNat = 4 * (16 * w + n) + 3 by omega, k1, k2, k3, k4]
      rw [if_pos (by omega), show (n : Int) + 1 - 1 = n by omega]
    rw [hC, hM]
    refine pr_built (RR.gen [206, 2031, 2032] [57, 58, 56] h (by repeat first | exact eC.rf _ _ | refine eC.wc ?_ (by decide) _ _ _ | refine eC.sr ?_ (by decide) _ _) (by repeat first | exact eM.rf _ _ | refine eM.wm ?_ (by decide) _ _) (Or.inl ⟨rfl, rfl⟩) (Or.inl ⟨rfl, rfl⟩) (Or.inl ⟨rfl, rfl⟩) (Or.inl ⟨rfl, rfl⟩) (Or.inl ⟨rfl, rfl⟩) (Or.inl ⟨rfl, rfl⟩) (Or.inl ⟨rfl, rfl⟩) (Or.inl ⟨rfl, rfl⟩) (Or.inr ?_) (Or.inl ⟨rfl, rfl⟩) (Or.inl ⟨rfl, rfl⟩) (Or.inl ⟨rfl, rfl⟩)) _
    intro w' hw'
    obtain ⟨z1, z2, z3, z4⟩ := h.Q w' hw'
    by_cases ew : w' = w
    · subst ew
      refine ⟨by simp [wc_at, wm_at], by simp [wm_at]; omega, by simp [wm_at]; omega, fun k k16 kl => ?_⟩
      have kl : (k : Int) < (n : Int) + 1 := by simpa [wm_at] using kl
      by_cases ek : k = n
      · subst ek
        refine ⟨by simp [wc_at, wm_at], by simp [wm_at]; omega, by simp [wm_at]; omega, fun j hj => ?_⟩
        have hj4 : j = 0 ∨ j = 1 ∨ j = 2 ∨ j = 3 := by omega
        rcases hj4 with rfl | rfl | rfl | rfl
        all_goals
          simp only [wc_at, wm_at]
          simp
          try (repeat' split) <;> first | rfl | omega
      · obtain ⟨y1, y2, y3, y4⟩ := z4 k k16 (by omega)
        refine ⟨by simp [wc_at, wm_at, ek, y1], by simp [wm_at, ek, y2], by simp [wm_at, ek, y3], fun j hj => ?_⟩
        simp only [wc_at, wm_at]
        rw [if_neg (by omega), if_neg (by omega), if_neg (by omega), if_neg (by omega), if_neg (by omega), if_neg (by omega), if_neg (by omega), if_neg (by omega), if_neg (by omega), if_neg (by omega), if_neg (by omega), if_neg (by omega)]
        exact y4 j hj
    · refine ⟨by simp [wc_at, wm_at, ew, z1], by simp [wm_at, ew, z2], by simp [wm_at, ew, z3], fun k k16 kl => ?_⟩
      obtain ⟨y1, y2, y3, y4⟩ := z4 k k16 (by simpa [wm_at, ew] using kl)
      have n1 : ¬ (16 * w' + k = 16 * w + n) := by omega
      refine ⟨by simp [wc_at, wm_at, ew, n1, y1], by simp [wm_at, n1, y2], by simp [wm_at, n1, y3], fun j hj => ?_⟩
      simp only [wc_at, wm_at]
      rw [if_neg (by omega), if_neg (by omega), if_neg (by omega), if_neg (by omega), if_neg (by omega), if_neg (by omega), if_neg (by omega), if_neg (by omega), if_neg (by omega), if_neg (by omega), if_neg (by omega), if_neg (by omega)]
      exact y4 j hj
  · unfold G_SW_plan G_Mo_plan GB_SW_plan_21 GB_Mo_plan_24
    simp only [s_beyond, q_some, q_eta, e1, e2, Int.toNat_natCast, a1, gd1 (show 0 ≤ (w : Int) ∧ (w : Int) < 3 by omega)]
    by_cases c1 : 1 ≤ v1 ∧ v1 ≤ 4
    · by_cases c2 : 0 ≤ v2 ∧ v2 ≤ 9999
      · have h16 : m 56 w = 16 := by omega
        simp only [if_neg (show ¬ v1 < 1 by omega), if_neg (show ¬ 4 < v1 by omega), if_neg (show ¬ v2 < 0 by omega), if_pos c2.2, if_pos c1, if_pos c2, h16, if_neg (show ¬ ((16 : Int) < 16) by omega), ne_eq, not_true_eq_false, if_false, if_true]
        exact pr_refuse h _ (by omega)
      · simp only [if_neg (show ¬ v1 < 1 by omega), if_neg (show ¬ 4 < v1 by omega), if_pos c1, if_neg c2, ne_eq, not_true_eq_false, if_false, show ¬ ((1 : Int) = 0) by decide]
        by_cases c3 : v2 < 0
        · rw [if_pos c3]
          exact pr_refuse h _ (by omega)
        · rw [if_neg c3, if_neg (by omega)]
          exact pr_refuse h _ (by omega)
    · simp only [if_neg c1, ne_eq, show ¬ ((1 : Int) = 0) by decide, not_false_eq_true, if_true]
      by_cases c3 : v1 < 1
      · rw [if_pos c3]
        exact pr_refuse h _ (by omega)
      · rw [if_neg c3, if_pos (by omega)]
        exact pr_refuse h _ (by omega)
