def RGa (c : h_C) (m : h_M) (i : Nat) : Prop := (c 6 (i + 1) 0 = m 10 i ∧ c 7 (i + 1) 0 = m 14 i ∧ c 8 (i + 1) 0 = m 16 i ∧ c 9 (i + 1) 0 = m 17 i ∧ c 10 (i + 1) 0 = m 18 i ∧ c 11 (i + 1) 0 = m 19 i ∧ c 12 (i + 1) 0 = m 20 i ∧ c 13 (i + 1) 0 = m 21 i ∧ c 14 (i + 1) 0 = m 13 i ∧ c 16 (i + 1) 0 = m 15 i) ∧ (0 ≤ m 10 i ∧ (m 10 i = 0 ∨ (m 5 i = 5 ∧ m 10 i < 2) ∨ (m 5 i = 6 ∧ m 10 i < 3))) ∧ (m 14 i = 0 ∨ m 14 i = 1) ∧ (0 ≤ m 13 i ∧ m 13 i ≤ 20) ∧ (m 5 i < 9 → c 2 (i + 1) 0 = m 9 i ∧ 0 ≤ m 9 i) ∧ (9 ≤ m 5 i → c 2 (i + 1) 0 = 0) ∧ (∀ k, k < 3 → c 2010 (i + 1) k = m 8 (3 * i + k) ∧ -1 ≤ m 8 (3 * i + k) ∧ m 8 (3 * i + k) < 40) ∧ (c 2011 (i + 1) 1 = m 11 (2 * i) ∧ c 2011 (i + 1) 2 = m 11 (2 * i + 1) ∧ 0 ≤ m 11 (2 * i) ∧ m 11 (2 * i) < 1099511627776 ∧ 0 ≤ m 11 (2 * i + 1) ∧ m 11 (2 * i + 1) < 1099511627776 ∧ (m 5 i = 5 → m 11 (2 * i + 1) = 0))
def RGe (c : h_C) (m : h_M) (w g : Nat) : Prop := ((g : Int) < m 3 w → c 3 (40 * w + g + 1) 0 = m 7 (40 * w + g) ∧ -1 ≤ m 7 (40 * w + g) ∧ m 7 (40 * w + g) ≤ 3 ∧ c 15 (40 * w + g + 1) 0 = m 12 (40 * w + g) ∧ -1 ≤ m 12 (40 * w + g)) ∧ (m 3 w ≤ (g : Int) → c 3 (40 * w + g + 1) 0 = -1)
theorem RG.mk {c : h_C} {m : h_M} (h1 : ∀ i, RGa c m i) (h2 : ∀ w g, w < 3 → g < 40 → RGe c m w g) : RG c m := ⟨h1, h2⟩
theorem RG.a {c : h_C} {m : h_M} (h : RG c m) (i : Nat) : RGa c m i := h.1 i
theorem RG.e {c : h_C} {m : h_M} (h : RG c m) {w g : Nat} (hw : w < 3) (hg : g < 40) : RGe c m w g := h.2 w g hw hg
theorem RGa.other {c c' : h_C} {m m' : h_M} {i : Nat} (h : RGa c m i) (hc : ∀ f ∈ sRG, c' f (i + 1) = c f (i + 1)) (hm : ∀ f ∈ [5, 9, 10, 13, 14, 15, 16, 17, 18, 19, 20, 21], m' f i = m f i) (h8 : ∀ k, k < 3 → m' 8 (3 * i + k) = m 8 (3 * i + k)) (h11 : m' 11 (2 * i) = m 11 (2 * i) ∧ m' 11 (2 * i + 1) = m 11 (2 * i + 1)) : RGa c' m' i := by
  obtain ⟨a, b1, b2, b3, b5, b6, b7, b8⟩ := h
  refine ⟨?_, ?_, ?_, ?_, ?_, ?_, fun k hk => ?_, ?_⟩
  · simpa only [hc 6 (by decide), hc 7 (by decide), hc 8 (by decide), hc 9 (by decide), hc 10 (by decide), hc 11 (by decide), hc 12 (by decide), hc 13 (by decide), hc 14 (by decide), hc 16 (by decide), hm 10 (by decide), hm 14 (by decide), hm 16 (by decide), hm 17 (by decide), hm 18 (by decide), hm 19 (by decide), hm 20 (by decide), hm 21 (by decide), hm 13 (by decide), hm 15 (by decide)] using a
  · simpa only [hm 10 (by decide), hm 5 (by decide)] using b1
  · simpa only [hm 14 (by decide)] using b2
  · simpa only [hm 13 (by decide)] using b3
  · simpa only [hm 5 (by decide), hm 9 (by decide), hc 2 (by decide)] using b5
  · simpa only [hm 5 (by decide), hc 2 (by decide)] using b6
  · rw [h8 k hk, hc 2010 (by decide)]; exact b7 k hk
  · simpa only [h11.1, h11.2, hc 2011 (by decide), hm 5 (by decide)] using b8
/-- gear i as if it came now -/
theorem bg_i {c : h_C} {m : h_M} {i : Nat} (h : RGa c m i) {k : Int} (h0 : 0 ≤ k) (h1 : k ≤ 10) : RGa (bgC c (i + 1) k) (bgM m i k) i := by
  obtain ⟨a, b1, b2, b3, b5, b6, b7, b8⟩ := h
  have e2 : ¬ (2 * i + 1 = 2 * i) := by omega
  have e3 : ¬ (2 * i = 2 * i + 1) := by omega
  refine ⟨?_, ?_, ?_, ?_, ?_, ?_, fun l hl => ?_, ?_⟩
  · simp [bgC, bgM, wc_at, wm_at]
  · simp [bgC, bgM, wc_at, wm_at]
  · simp [bgC, bgM, wc_at, wm_at]
  · simp [bgC, bgM, wc_at, wm_at]
  · simp [bgC, bgM, wc_at, wm_at, sr_at, tab0 h0 h1]
    intro hk
    repeat' split
    all_goals first | omega | simp
  · simp [bgC, bgM, wc_at, wm_at, sr_at, tab0 h0 h1]
    intro hk
    repeat' split
    all_goals first | omega | simp
  · simpa [bgC, bgM, wc_at, wm_at, sr_at] using b7 l hl
  · simp [bgC, bgM, wc_at, wm_at, sr_at, fl_at, e2, e3]
theorem bg_o {c : h_C} {m : h_M} {i i' : Nat} (h : RGa c m i') (hi : i' ≠ i) (k : Int) : RGa (bgC c (i + 1) k) (bgM m i k) i' := by
  have e2 : ¬ (2 * i' + 1 = 2 * i) := by omega
  have e3 : ¬ (2 * i' = 2 * i + 1) := by omega
  have e4 : ¬ (2 * i' = 2 * i) := by omega
  refine h.other (fun f hf => ?_) (fun f hf => ?_) (fun l hl => ?_) ⟨?_, ?_⟩
  · funext l; simp [bgC, wc_at, sr_at, hi]
  · have h11 : f ≠ 11 := fun z => by subst z; exact absurd hf (by decide)
    simp [bgM, wm_at, hi, h11]
  · simp [bgM, wm_at]
  · simp [bgM, wm_at, hi, e2, e3, e4]
  · simp [bgM, wm_at, hi, e2, e3, e4]
theorem RK.built {b : Nat} {c c' : h_C} {m m' : h_M} (h : RR b c m) {w : Nat} (hw : w < 3) {lc lm : List Nat} (hc : eC lc c c') (hm : eM lm m m') (dc : dj sRK lc) (dm : dj [24, 25, 28, 29, 82, 83, 123] lm) (m2 : ∀ w', w' ≠ w → m' 3 w' = m 3 w') (m3 : ∀ w' g, w' ≠ w → w' < 3 → g < 40 → m' 5 (40 * w' + g) = m 5 (40 * w' + g) ∧ m' 6 (40 * w' + g) = m 6 (40 * w' + g)) (m4 : ∀ w', w' ≠ w → m' 48 w' = m 48 w') (m5 : m' 81 = m 81) : RK b (wc c' 213 w 0 0) (wm m' 81 w 0) := by
  refine h.K.other h.F hw (fun f hf hn => ?_) (fun w' hn => ?_) ?_ (fun f hf hn => ?_) (fun w' hn => ?_) (fun w' g hn hw' hg => ?_) (fun w' hn => ?_) (fun w' hn => ?_) ?_
  · show sr c' 213 w _ f = c f
    rw [sr_nf hn]
    exact hc f (dc.at hf)
  · funext l
    simp only [wc_at, hn, false_and, and_false, if_false]
    rw [hc 213 (dc.at (by decide))]
  · simp [wc_at]
  · have h81 : f ≠ 81 := fun q => hn (by rw [q]; decide)
    show sm m' 81 _ f = m f
    rw [sm_n h81]
    refine hm f (dm.at ?_)
    have : f ∈ tRK := hf
    simp [tRK] at this
    simp at hn
    simp
    omega
  · simp only [wm_at]
    rw [if_neg (by omega)]
    exact m2 w' hn
  · simp only [wm_at]
    rw [if_neg (by omega), if_neg (by omega)]
    exact m3 w' g hn hw' hg
  · simp only [wm_at]
    rw [if_neg (by omega)]
    exact m4 w' hn
  · simp only [wm_at, hn, and_false, if_false]
    rw [m5]
  · simp [wm_at]
theorem pr_refit {b : Nat} {c : h_C} {m : h_M} (h : RR b c m) (hE : c 607 0 0 = m 102 0) (v1 v2 : Int) : PR b (G_SW_refit v1 v2 c) (G_Mo_refit v1 v2 m) := by
  obtain ⟨w, hw, e1, e2⟩ := h.w
  by_cases hg : 0 ≤ v1 ∧ v1 < m 3 w
  case neg =>
    obtain ⟨r, c', m', x1, x2, x3⟩ := pr_refuse h (-1) (by omega)
    refine ⟨r, c', m', ?_, ?_, x3⟩
    · unfold G_SW_refit
      simp only [e2, Int.toNat_natCast, q_eta, s_gearOf0 hw h.F hg, q_some]
      exact gdT (by omega) (ifF (by simp) x1)
    · unfold G_Mo_refit
      simp only [s_noGear hw h.F e1, if_neg hg, q_some, q_eta]
      exact ifF (by decide) x2
  obtain ⟨g, rfl⟩ : ∃ g : Nat, v1 = (g : Int) := ⟨v1.toNat, by omega⟩
  obtain ⟨g40, i120, hj, eK, k0, k10, eL, l0, l8, lt, ln⟩ := h.gr hw hg.2
  unfold G_SW_refit G_Mo_refit
  simp (discharger := omega) only [e1, e2, Int.toNat_natCast, q_eta, q_some, q_some2, s_gearOf hw h.F hg.2, s_noGear hw h.F e1, s_g hw e1 g40, s_beyond, s_cTaker hj, s_mTaker, s_cDivert hj, s_mDivert, s_mSides, s_cChute hj, s_mChute, eK, if_pos hg, gd1, p_w1, ne_eq, Nat.add_eq_zero_iff, Nat.succ_ne_zero, and_false, not_false_eq_true, not_true_eq_false, if_true, if_false, ↓reduceIte, bi1, s_isKind, s_isTakerKind, s_parcels h hw hg.2, s_load i120 l0 l8, s_begin hj, s_fresh i120]
  repeat' split
  all_goals first | (exfalso; omega) | exact pr_refuse h _ (by omega) | exact pr_fault h _ _ (by omega) (by omega) (by omega) | skip
  all_goals
    have kk : 0 ≤ v2 ∧ v2 ≤ 10 := by omega
    have tk : v2 < 9 ↔ m 5 (40 * w + g) < 9 := by omega
    try simp only [s_begin hj kk.1 kk.2, s_fresh i120 kk.1 kk.2, q_some]
    have nc := bgC_n c (40 * w + g + 1) v2
    have nm := bgM_n m (40 * w + g) v2
    refine pr_built2 hw (by rw [nm 100 (by decide)]; exact e1) (by rw [nc 5000 (by decide)]; exact e2) (by rw [nc 607 (by decide), nm 102 (by decide)]; exact hE) ?_ _
    have nc' : eC [0, 2, 2011, 6, 7, 8, 9, 10, 11, 12, 13, 14, 15, 16, 213] c (wc (bgC c (40 * w + g + 1) v2) 213 w 0 0) := (nc.up (by decide)).wc (by decide) _ _ _
    have nm' : eM [5, 9, 10, 11, 12, 13, 14, 15, 16, 17, 18, 19, 20, 21, 81] m (wm (bgM m (40 * w + g) v2) 81 w 0) := (nm.up (by decide)).wm (by decide) _ _
    refine (RR.gen [0, 2, 2011, 6, 7, 8, 9, 10, 11, 12, 13, 14, 15, 16, 213] [5, 9, 10, 11, 12, 13, 14, 15, 16, 17, 18, 19, 20, 21, 81] h nc' nm' (Or.inl ⟨rfl, rfl⟩) (Or.inr ?_) (Or.inr ?_) (Or.inl ⟨rfl, rfl⟩) (Or.inl ⟨rfl, rfl⟩) (Or.inl ⟨rfl, rfl⟩) (Or.inl ⟨rfl, rfl⟩) (Or.inl ⟨rfl, rfl⟩) (Or.inl ⟨rfl, rfl⟩) (Or.inl ⟨rfl, rfl⟩) (Or.inl ⟨rfl, rfl⟩) (Or.inr ?_))
    · obtain ⟨f1, f2, f3⟩ := h.F
      refine ⟨fun w' => ?_, fun i' => ?_, fun w' g' hw' hg' => ?_⟩
      · have := f1 w'
        simpa [bgC, bgM, wc_at, wm_at, sr_at] using this
      · have := f2 i'
        by_cases e : i' = 40 * w + g
        · subst e
          simp [bgC, bgM, wc_at, wm_at, sr_at]
          omega
        · simpa [bgC, bgM, wc_at, wm_at, sr_at, e] using this
      · have := f3 w' g' hw' (by simpa [bgM, wm_at] using hg')
        by_cases e : 40 * w' + g' = 40 * w + g
        · rw [e] at this ⊢
          simp [bgM, wm_at]
          omega
        · simpa [bgC, bgM, wc_at, wm_at, sr_at, e] using this
    · refine RG.mk (fun i' => ?_) (fun w' g' hw' hg' => ?_)
      · have q : RGa (bgC c (40 * w + g + 1) v2) (bgM m (40 * w + g) v2) i' := by
          by_cases e : i' = 40 * w + g
          · subst e
            exact bg_i (h.G.a _) kk.1 kk.2
          · exact bg_o (h.G.a _) e v2
        refine q.other (fun f hf => ?_) (fun f hf => ?_) (fun l hl => by simp [wm_at]) ⟨by simp [wm_at], by simp [wm_at]⟩
        · show sr _ 213 w _ f _ = _
          rw [sr_nf (fun z => by subst z; exact absurd hf (by decide))]
        · simp only [wm_at]
          rw [if_neg (fun z => by rw [z.1] at hf; exact absurd hf (by decide))]
      · have q := h.G.e hw' hg'
        obtain ⟨q1, q2⟩ := q
        refine ⟨fun hl => ?_, fun hl => ?_⟩
        · have hl : (g' : Int) < m 3 w' := by simpa [bgM, wm_at] using hl
          obtain ⟨p1, p2, p3, p4, p5⟩ := q1 hl
          by_cases e : 40 * w' + g' = 40 * w + g
          · rw [e] at p1 p2 p3 ⊢
            simp [bgC, bgM, wc_at, wm_at, sr_at, p1, p2, p3]
          · simp [bgC, bgM, wc_at, wm_at, sr_at, e, p1, p2, p3, p4, p5]
        · have hl : m 3 w' ≤ (g' : Int) := by simpa [bgM, wm_at] using hl
          simpa [bgC, wc_at, sr_at] using q2 hl
    · refine RK.built h hw nc nm rfl rfl (fun w' hn => by rw [nm 3 (by decide)]) (fun w' g' hn hw' hg' => ⟨?_, by rw [nm 6 (by decide)]⟩) (fun w' hn => by rw [nm 48 (by decide)]) (by rw [nm 81 (by decide)])
      have : ¬ (40 * w' + g' = 40 * w + g) := by omega
      simp [bgM, wm_at, this]
