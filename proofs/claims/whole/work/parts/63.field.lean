/-! ===== one field of a gear is another, in both ===== -/
theorem RR.f8 {b : Nat} {c : h_C} {m : h_M} (h : RR b c m) (i : Nat) (x : Int) : RR b (wc c 8 (i + 1) 0 x) (wm m 16 i x) := by
  have hG := h.G
  refine (RR.gen [8] [16] h (by repeat first | exact eC.rf _ _ | refine eC.wc ?_ (by decide) _ _ _ | refine eC.sr ?_ (by decide) _ _) (by repeat first | exact eM.rf _ _ | refine eM.wm ?_ (by decide) _ _) (Or.inl ⟨rfl, rfl⟩) (Or.inl ⟨rfl, rfl⟩) (Or.inr ?_) (Or.inl ⟨rfl, rfl⟩) (Or.inl ⟨rfl, rfl⟩) (Or.inl ⟨rfl, rfl⟩) (Or.inl ⟨rfl, rfl⟩) (Or.inl ⟨rfl, rfl⟩) (Or.inl ⟨rfl, rfl⟩) (Or.inl ⟨rfl, rfl⟩) (Or.inl ⟨rfl, rfl⟩) (Or.inl ⟨rfl, rfl⟩))
  refine ⟨fun i' => ?_, fun w g hw hg => ?_⟩
  · obtain ⟨⟨a1, a2, a3, a4, a5, a6, a7, a8, a9, a10⟩, b⟩ := hG.1 i'
    refine ⟨?_, by simpa [wc_at, wm_at] using b⟩
    simp [wc_at, wm_at, a1, a2, a3, a4, a5, a6, a7, a8, a9, a10]
  · simpa [wc_at, wm_at] using hG.2 w g hw hg
theorem RR.f9 {b : Nat} {c : h_C} {m : h_M} (h : RR b c m) (i : Nat) (x : Int) : RR b (wc c 9 (i + 1) 0 x) (wm m 17 i x) := by
  have hG := h.G
  refine (RR.gen [9] [17] h (by repeat first | exact eC.rf _ _ | refine eC.wc ?_ (by decide) _ _ _ | refine eC.sr ?_ (by decide) _ _) (by repeat first | exact eM.rf _ _ | refine eM.wm ?_ (by decide) _ _) (Or.inl ⟨rfl, rfl⟩) (Or.inl ⟨rfl, rfl⟩) (Or.inr ?_) (Or.inl ⟨rfl, rfl⟩) (Or.inl ⟨rfl, rfl⟩) (Or.inl ⟨rfl, rfl⟩) (Or.inl ⟨rfl, rfl⟩) (Or.inl ⟨rfl, rfl⟩) (Or.inl ⟨rfl, rfl⟩) (Or.inl ⟨rfl, rfl⟩) (Or.inl ⟨rfl, rfl⟩) (Or.inl ⟨rfl, rfl⟩))
  refine ⟨fun i' => ?_, fun w g hw hg => ?_⟩
  · obtain ⟨⟨a1, a2, a3, a4, a5, a6, a7, a8, a9, a10⟩, b⟩ := hG.1 i'
    refine ⟨?_, by simpa [wc_at, wm_at] using b⟩
    simp [wc_at, wm_at, a1, a2, a3, a4, a5, a6, a7, a8, a9, a10]
  · simpa [wc_at, wm_at] using hG.2 w g hw hg
theorem RR.f10 {b : Nat} {c : h_C} {m : h_M} (h : RR b c m) (i : Nat) (x : Int) : RR b (wc c 10 (i + 1) 0 x) (wm m 18 i x) := by
  have hG := h.G
  refine (RR.gen [10] [18] h (by repeat first | exact eC.rf _ _ | refine eC.wc ?_ (by decide) _ _ _ | refine eC.sr ?_ (by decide) _ _) (by repeat first | exact eM.rf _ _ | refine eM.wm ?_ (by decide) _ _) (Or.inl ⟨rfl, rfl⟩) (Or.inl ⟨rfl, rfl⟩) (Or.inr ?_) (Or.inl ⟨rfl, rfl⟩) (Or.inl ⟨rfl, rfl⟩) (Or.inl ⟨rfl, rfl⟩) (Or.inl ⟨rfl, rfl⟩) (Or.inl ⟨rfl, rfl⟩) (Or.inl ⟨rfl, rfl⟩) (Or.inl ⟨rfl, rfl⟩) (Or.inl ⟨rfl, rfl⟩) (Or.inl ⟨rfl, rfl⟩))
  refine ⟨fun i' => ?_, fun w g hw hg => ?_⟩
  · obtain ⟨⟨a1, a2, a3, a4, a5, a6, a7, a8, a9, a10⟩, b⟩ := hG.1 i'
    refine ⟨?_, by simpa [wc_at, wm_at] using b⟩
    simp [wc_at, wm_at, a1, a2, a3, a4, a5, a6, a7, a8, a9, a10]
  · simpa [wc_at, wm_at] using hG.2 w g hw hg
theorem RR.f11 {b : Nat} {c : h_C} {m : h_M} (h : RR b c m) (i : Nat) (x : Int) : RR b (wc c 11 (i + 1) 0 x) (wm m 19 i x) := by
  have hG := h.G
  refine (RR.gen [11] [19] h (by repeat first | exact eC.rf _ _ | refine eC.wc ?_ (by decide) _ _ _ | refine eC.sr ?_ (by decide) _ _) (by repeat first | exact eM.rf _ _ | refine eM.wm ?_ (by decide) _ _) (Or.inl ⟨rfl, rfl⟩) (Or.inl ⟨rfl, rfl⟩) (Or.inr ?_) (Or.inl ⟨rfl, rfl⟩) (Or.inl ⟨rfl, rfl⟩) (Or.inl ⟨rfl, rfl⟩) (Or.inl ⟨rfl, rfl⟩) (Or.inl ⟨rfl, rfl⟩) (Or.inl ⟨rfl, rfl⟩) (Or.inl ⟨rfl, rfl⟩) (Or.inl ⟨rfl, rfl⟩) (Or.inl ⟨rfl, rfl⟩))
  refine ⟨fun i' => ?_, fun w g hw hg => ?_⟩
  · obtain ⟨⟨a1, a2, a3, a4, a5, a6, a7, a8, a9, a10⟩, b⟩ := hG.1 i'
    refine ⟨?_, by simpa [wc_at, wm_at] using b⟩
    simp [wc_at, wm_at, a1, a2, a3, a4, a5, a6, a7, a8, a9, a10]
  · simpa [wc_at, wm_at] using hG.2 w g hw hg
theorem RR.f12 {b : Nat} {c : h_C} {m : h_M} (h : RR b c m) (i : Nat) (x : Int) : RR b (wc c 12 (i + 1) 0 x) (wm m 20 i x) := by
  have hG := h.G
  refine (RR.gen [12] [20] h (by repeat first | exact eC.rf _ _ | refine eC.wc ?_ (by decide) _ _ _ | refine eC.sr ?_ (by decide) _ _) (by repeat first | exact eM.rf _ _ | refine eM.wm ?_ (by decide) _ _) (Or.inl ⟨rfl, rfl⟩) (Or.inl ⟨rfl, rfl⟩) (Or.inr ?_) (Or.inl ⟨rfl, rfl⟩) (Or.inl ⟨rfl, rfl⟩) (Or.inl ⟨rfl, rfl⟩) (Or.inl ⟨rfl, rfl⟩) (Or.inl ⟨rfl, rfl⟩) (Or.inl ⟨rfl, rfl⟩) (Or.inl ⟨rfl, rfl⟩) (Or.inl ⟨rfl, rfl⟩) (Or.inl ⟨rfl, rfl⟩))
  refine ⟨fun i' => ?_, fun w g hw hg => ?_⟩
  · obtain ⟨⟨a1, a2, a3, a4, a5, a6, a7, a8, a9, a10⟩, b⟩ := hG.1 i'
    refine ⟨?_, by simpa [wc_at, wm_at] using b⟩
    simp [wc_at, wm_at, a1, a2, a3, a4, a5, a6, a7, a8, a9, a10]
  · simpa [wc_at, wm_at] using hG.2 w g hw hg
theorem RR.f13 {b : Nat} {c : h_C} {m : h_M} (h : RR b c m) (i : Nat) (x : Int) : RR b (wc c 13 (i + 1) 0 x) (wm m 21 i x) := by
  have hG := h.G
  refine (RR.gen [13] [21] h (by repeat first | exact eC.rf _ _ | refine eC.wc ?_ (by decide) _ _ _ | refine eC.sr ?_ (by decide) _ _) (by repeat first | exact eM.rf _ _ | refine eM.wm ?_ (by decide) _ _) (Or.inl ⟨rfl, rfl⟩) (Or.inl ⟨rfl, rfl⟩) (Or.inr ?_) (Or.inl ⟨rfl, rfl⟩) (Or.inl ⟨rfl, rfl⟩) (Or.inl ⟨rfl, rfl⟩) (Or.inl ⟨rfl, rfl⟩) (Or.inl ⟨rfl, rfl⟩) (Or.inl ⟨rfl, rfl⟩) (Or.inl ⟨rfl, rfl⟩) (Or.inl ⟨rfl, rfl⟩) (Or.inl ⟨rfl, rfl⟩))
  refine ⟨fun i' => ?_, fun w g hw hg => ?_⟩
  · obtain ⟨⟨a1, a2, a3, a4, a5, a6, a7, a8, a9, a10⟩, b⟩ := hG.1 i'
    refine ⟨?_, by simpa [wc_at, wm_at] using b⟩
    simp [wc_at, wm_at, a1, a2, a3, a4, a5, a6, a7, a8, a9, a10]
  · simpa [wc_at, wm_at] using hG.2 w g hw hg
theorem RR.f16 {b : Nat} {c : h_C} {m : h_M} (h : RR b c m) (i : Nat) (x : Int) : RR b (wc c 16 (i + 1) 0 x) (wm m 15 i x) := by
  have hG := h.G
  refine (RR.gen [16] [15] h (by repeat first | exact eC.rf _ _ | refine eC.wc ?_ (by decide) _ _ _ | refine eC.sr ?_ (by decide) _ _) (by repeat first | exact eM.rf _ _ | refine eM.wm ?_ (by decide) _ _) (Or.inl ⟨rfl, rfl⟩) (Or.inl ⟨rfl, rfl⟩) (Or.inr ?_) (Or.inl ⟨rfl, rfl⟩) (Or.inl ⟨rfl, rfl⟩) (Or.inl ⟨rfl, rfl⟩) (Or.inl ⟨rfl, rfl⟩) (Or.inl ⟨rfl, rfl⟩) (Or.inl ⟨rfl, rfl⟩) (Or.inl ⟨rfl, rfl⟩) (Or.inl ⟨rfl, rfl⟩) (Or.inl ⟨rfl, rfl⟩))
  refine ⟨fun i' => ?_, fun w g hw hg => ?_⟩
  · obtain ⟨⟨a1, a2, a3, a4, a5, a6, a7, a8, a9, a10⟩, b⟩ := hG.1 i'
    refine ⟨?_, by simpa [wc_at, wm_at] using b⟩
    simp [wc_at, wm_at, a1, a2, a3, a4, a5, a6, a7, a8, a9, a10]
  · simpa [wc_at, wm_at] using hG.2 w g hw hg
theorem RR.f6 {b : Nat} {c : h_C} {m : h_M} (h : RR b c m) (i : Nat) (x : Int) (hx : 0 ≤ x ∧ (x = 0 ∨ (m 5 i = 5 ∧ x < 2) ∨ (m 5 i = 6 ∧ x < 3))) : RR b (wc c 6 (i + 1) 0 x) (wm m 10 i x) := by
  have hG := h.G
  refine (RR.gen [6] [10] h (by repeat first | exact eC.rf _ _ | refine eC.wc ?_ (by decide) _ _ _ | refine eC.sr ?_ (by decide) _ _) (by repeat first | exact eM.rf _ _ | refine eM.wm ?_ (by decide) _ _) (Or.inl ⟨rfl, rfl⟩) (Or.inl ⟨rfl, rfl⟩) (Or.inr ?_) (Or.inl ⟨rfl, rfl⟩) (Or.inl ⟨rfl, rfl⟩) (Or.inl ⟨rfl, rfl⟩) (Or.inl ⟨rfl, rfl⟩) (Or.inl ⟨rfl, rfl⟩) (Or.inl ⟨rfl, rfl⟩) (Or.inl ⟨rfl, rfl⟩) (Or.inl ⟨rfl, rfl⟩) (Or.inl ⟨rfl, rfl⟩))
  refine ⟨fun i' => ?_, fun w g hw hg => ?_⟩
  · obtain ⟨⟨a1, a2, a3, a4, a5, a6, a7, a8, a9, a10⟩, b1, b2, b3, b⟩ := hG.1 i'
    refine ⟨by simp [wc_at, wm_at, a1, a2, a3, a4, a5, a6, a7, a8, a9, a10], ?_, ?_, ?_, by simpa [wc_at, wm_at] using b⟩
    all_goals
      by_cases e : i' = i
      · subst e; simpa [wc_at, wm_at] using (by first | exact hx | assumption)
      · simpa [wc_at, wm_at, e] using (by assumption)
  · simpa [wc_at, wm_at] using hG.2 w g hw hg
theorem RR.f7 {b : Nat} {c : h_C} {m : h_M} (h : RR b c m) (i : Nat) (x : Int) (hx : x = 0 ∨ x = 1) : RR b (wc c 7 (i + 1) 0 x) (wm m 14 i x) := by
  have hG := h.G
  refine (RR.gen [7] [14] h (by repeat first | exact eC.rf _ _ | refine eC.wc ?_ (by decide) _ _ _ | refine eC.sr ?_ (by decide) _ _) (by repeat first | exact eM.rf _ _ | refine eM.wm ?_ (by decide) _ _) (Or.inl ⟨rfl, rfl⟩) (Or.inl ⟨rfl, rfl⟩) (Or.inr ?_) (Or.inl ⟨rfl, rfl⟩) (Or.inl ⟨rfl, rfl⟩) (Or.inl ⟨rfl, rfl⟩) (Or.inl ⟨rfl, rfl⟩) (Or.inl ⟨rfl, rfl⟩) (Or.inl ⟨rfl, rfl⟩) (Or.inl ⟨rfl, rfl⟩) (Or.inl ⟨rfl, rfl⟩) (Or.inl ⟨rfl, rfl⟩))
  refine ⟨fun i' => ?_, fun w g hw hg => ?_⟩
  · obtain ⟨⟨a1, a2, a3, a4, a5, a6, a7, a8, a9, a10⟩, b1, b2, b3, b⟩ := hG.1 i'
    refine ⟨by simp [wc_at, wm_at, a1, a2, a3, a4, a5, a6, a7, a8, a9, a10], ?_, ?_, ?_, by simpa [wc_at, wm_at] using b⟩
    all_goals
      by_cases e : i' = i
      · subst e; simpa [wc_at, wm_at] using (by first | exact hx | assumption)
      · simpa [wc_at, wm_at, e] using (by assumption)
  · simpa [wc_at, wm_at] using hG.2 w g hw hg
theorem RR.f14 {b : Nat} {c : h_C} {m : h_M} (h : RR b c m) (i : Nat) (x : Int) (hx : 0 ≤ x ∧ x ≤ 20) : RR b (wc c 14 (i + 1) 0 x) (wm m 13 i x) := by
  have hG := h.G
  refine (RR.gen [14] [13] h (by repeat first | exact eC.rf _ _ | refine eC.wc ?_ (by decide) _ _ _ | refine eC.sr ?_ (by decide) _ _) (by repeat first | exact eM.rf _ _ | refine eM.wm ?_ (by decide) _ _) (Or.inl ⟨rfl, rfl⟩) (Or.inl ⟨rfl, rfl⟩) (Or.inr ?_) (Or.inl ⟨rfl, rfl⟩) (Or.inl ⟨rfl, rfl⟩) (Or.inl ⟨rfl, rfl⟩) (Or.inl ⟨rfl, rfl⟩) (Or.inl ⟨rfl, rfl⟩) (Or.inl ⟨rfl, rfl⟩) (Or.inl ⟨rfl, rfl⟩) (Or.inl ⟨rfl, rfl⟩) (Or.inl ⟨rfl, rfl⟩))
  refine ⟨fun i' => ?_, fun w g hw hg => ?_⟩
  · obtain ⟨⟨a1, a2, a3, a4, a5, a6, a7, a8, a9, a10⟩, b1, b2, b3, b⟩ := hG.1 i'
    refine ⟨by simp [wc_at, wm_at, a1, a2, a3, a4, a5, a6, a7, a8, a9, a10], ?_, ?_, ?_, by simpa [wc_at, wm_at] using b⟩
    all_goals
      by_cases e : i' = i
      · subst e; simpa [wc_at, wm_at] using (by first | exact hx | assumption)
      · simpa [wc_at, wm_at, e] using (by assumption)
  · simpa [wc_at, wm_at] using hG.2 w g hw hg
theorem RR.f15 {b : Nat} {c : h_C} {m : h_M} (h : RR b c m) (i : Nat) (x : Int) (hx : -1 ≤ x) : RR b (wc c 15 (i + 1) 0 x) (wm m 12 i x) := by
  have hG := h.G
  refine (RR.gen [15] [12] h (by repeat first | exact eC.rf _ _ | refine eC.wc ?_ (by decide) _ _ _ | refine eC.sr ?_ (by decide) _ _) (by repeat first | exact eM.rf _ _ | refine eM.wm ?_ (by decide) _ _) (Or.inl ⟨rfl, rfl⟩) (Or.inl ⟨rfl, rfl⟩) (Or.inr ?_) (Or.inl ⟨rfl, rfl⟩) (Or.inl ⟨rfl, rfl⟩) (Or.inl ⟨rfl, rfl⟩) (Or.inl ⟨rfl, rfl⟩) (Or.inl ⟨rfl, rfl⟩) (Or.inl ⟨rfl, rfl⟩) (Or.inl ⟨rfl, rfl⟩) (Or.inl ⟨rfl, rfl⟩) (Or.inl ⟨rfl, rfl⟩))
  refine ⟨fun i' => ?_, fun w g hw hg => ?_⟩
  · simpa [wc_at, wm_at] using hG.1 i'
  · have hq := hG.2 w g hw hg
    by_cases e : 40 * w + g = i
    · subst e
      refine ⟨fun hl => ?_, fun hl => ?_⟩
      · obtain ⟨q1, q2, q3, q4, q5⟩ := hq.1 (by simpa [wm_at] using hl)
        simp [wc_at, wm_at, q1, q2, q3, hx]
      · simpa [wc_at] using hq.2 (by simpa [wm_at] using hl)
    · simpa [wc_at, wm_at, e] using hq
theorem RR.f2 {b : Nat} {c : h_C} {m : h_M} (h : RR b c m) (i : Nat) (x : Int) (hk : m 5 i < 9) (hx : 0 ≤ x) : RR b (wc c 2 (i + 1) 0 x) (wm m 9 i x) := by
  have hG := h.G
  refine (RR.gen [2] [9] h (by repeat first | exact eC.rf _ _ | refine eC.wc ?_ (by decide) _ _ _ | refine eC.sr ?_ (by decide) _ _) (by repeat first | exact eM.rf _ _ | refine eM.wm ?_ (by decide) _ _) (Or.inl ⟨rfl, rfl⟩) (Or.inl ⟨rfl, rfl⟩) (Or.inr ?_) (Or.inl ⟨rfl, rfl⟩) (Or.inl ⟨rfl, rfl⟩) (Or.inl ⟨rfl, rfl⟩) (Or.inl ⟨rfl, rfl⟩) (Or.inl ⟨rfl, rfl⟩) (Or.inl ⟨rfl, rfl⟩) (Or.inl ⟨rfl, rfl⟩) (Or.inl ⟨rfl, rfl⟩) (Or.inl ⟨rfl, rfl⟩))
  refine ⟨fun i' => ?_, fun w g hw hg => ?_⟩
  · obtain ⟨a, b1, b2, b3, b5, b6, b⟩ := hG.1 i'
    refine ⟨by simpa [wc_at, wm_at] using a, by simpa [wc_at, wm_at] using b1, by simpa [wc_at, wm_at] using b2, by simpa [wc_at, wm_at] using b3, ?_, ?_, by simpa [wc_at, wm_at] using b⟩
    · by_cases e : i' = i
      · subst e; simp [wc_at, wm_at, hx]
      · simpa [wc_at, wm_at, e] using b5
    · by_cases e : i' = i
      · subst e; simp [wc_at, wm_at]; omega
      · simpa [wc_at, wm_at, e] using b6
  · simpa [wc_at, wm_at] using hG.2 w g hw hg
theorem RR.f3 {b : Nat} {c : h_C} {m : h_M} (h : RR b c m) {w g : Nat} (hw : w < 3) (hg : (g : Int) < m 3 w) (x : Int) (hx : -1 ≤ x ∧ x ≤ 3) : RR b (wc c 3 (40 * w + g + 1) 0 x) (wm m 7 (40 * w + g) x) := by
  have hG := h.G
  have g40 := (h.gr hw hg).1
  refine (RR.gen [3] [7] h (by repeat first | exact eC.rf _ _ | refine eC.wc ?_ (by decide) _ _ _ | refine eC.sr ?_ (by decide) _ _) (by repeat first | exact eM.rf _ _ | refine eM.wm ?_ (by decide) _ _) (Or.inl ⟨rfl, rfl⟩) (Or.inl ⟨rfl, rfl⟩) (Or.inr ?_) (Or.inl ⟨rfl, rfl⟩) (Or.inl ⟨rfl, rfl⟩) (Or.inl ⟨rfl, rfl⟩) (Or.inl ⟨rfl, rfl⟩) (Or.inl ⟨rfl, rfl⟩) (Or.inl ⟨rfl, rfl⟩) (Or.inl ⟨rfl, rfl⟩) (Or.inl ⟨rfl, rfl⟩) (Or.inl ⟨rfl, rfl⟩))
  refine ⟨fun i' => ?_, fun w' g' hw' hg' => ?_⟩
  · simpa [wc_at, wm_at] using hG.1 i'
  · have hq := hG.2 w' g' hw' hg'
    by_cases e : 40 * w' + g' = 40 * w + g
    · obtain ⟨rfl, rfl⟩ : w' = w ∧ g' = g := by omega
      refine ⟨fun hl => ?_, fun hl => ?_⟩
      · obtain ⟨q1, q2, q3, q4, q5⟩ := hq.1 hg
        simp [wc_at, wm_at, q4, q5, hx]
      · have hl : m 3 w' ≤ (g' : Int) := by simpa [wm_at] using hl
        omega
    · simpa [wc_at, wm_at, e] using hq
theorem RR.f2010 {b : Nat} {c : h_C} {m : h_M} (h : RR b c m) {i k : Nat} (hk : k < 3) (x : Int) (hx : -1 ≤ x ∧ x < 40) : RR b (wc c 2010 (i + 1) k x) (wm m 8 (3 * i + k) x) := by
  have hG := h.G
  refine (RR.gen [2010] [8] h (by repeat first | exact eC.rf _ _ | refine eC.wc ?_ (by decide) _ _ _ | refine eC.sr ?_ (by decide) _ _) (by repeat first | exact eM.rf _ _ | refine eM.wm ?_ (by decide) _ _) (Or.inl ⟨rfl, rfl⟩) (Or.inl ⟨rfl, rfl⟩) (Or.inr ?_) (Or.inl ⟨rfl, rfl⟩) (Or.inl ⟨rfl, rfl⟩) (Or.inl ⟨rfl, rfl⟩) (Or.inl ⟨rfl, rfl⟩) (Or.inl ⟨rfl, rfl⟩) (Or.inl ⟨rfl, rfl⟩) (Or.inl ⟨rfl, rfl⟩) (Or.inl ⟨rfl, rfl⟩) (Or.inl ⟨rfl, rfl⟩))
  refine ⟨fun i' => ?_, fun w g hw hg => ?_⟩
  · obtain ⟨a, b1, b2, b3, b5, b6, b7, b8⟩ := hG.1 i'
    refine ⟨by simpa [wc_at, wm_at] using a, by simpa [wc_at, wm_at] using b1, by simpa [wc_at, wm_at] using b2, by simpa [wc_at, wm_at] using b3, by simpa [wc_at, wm_at] using b5, by simpa [wc_at, wm_at] using b6, fun k' hk' => ?_, by simpa [wc_at, wm_at] using b8⟩
    have hq := b7 k' hk'
    simp only [wc_at, wm_at]
    by_cases e : i' = i ∧ k' = k
    · obtain ⟨rfl, rfl⟩ := e
      simp [hx]
    · rw [if_neg (by omega), if_neg (by omega)]
      exact hq
  · simpa [wc_at, wm_at] using hG.2 w g hw hg
