/-! ===== what builds: nothing is kept any more ===== -/
theorem pr_built2 {b : Nat} {c : h_C} {m : h_M} {w : Nat} (hw : w < 3) (e1 : m 100 0 = (w : Int)) (e2 : c 5000 0 0 = (w : Int)) (hE : c 607 0 0 = m 102 0) (h : RR b (wc c 213 w 0 0) (wm m 81 w 0)) (v : Int) : PR b (G_SW_built v c) (G_Mo_built v m) := by
  obtain ⟨r, c', m', x1, x2, x3⟩ := pr_done h v
  refine ⟨r, c', m', ?_, ?_, x3⟩
  · unfold G_SW_built
    simp only [e2, q_eta]
    refine gdT (by omega) (qvC (s := wc c 213 w 0 0) ?_ x1)
    unfold G_Works_forget
    rw [Int.toNat_natCast]
    exact gdT hw rfl
  · unfold G_Mo_built
    simp only [e1, q_eta]
    exact gdT (by omega) (bX (by rw [Int.toNat_natCast]; exact x2))
/-- what is kept of the other works, where only rows of works w were changed -/
theorem RK.other {b : Nat} {c c' : h_C} {m m' : h_M} (h : RK b c m) (hF : RF c m) {w : Nat} (hw : w < 3)
    (c1 : ∀ f ∈ sRK, f ≠ 213 → c' f = c f) (c2 : ∀ w', w' ≠ w → c' 213 w' = c 213 w') (c3 : c' 213 w 0 = 0)
    (m1 : ∀ f ∈ tRK, f ∉ [3, 5, 6, 48, 81] → m' f = m f) (m2 : ∀ w', w' ≠ w → m' 3 w' = m 3 w') (m3 : ∀ w' g, w' ≠ w → w' < 3 → g < 40 → m' 5 (40 * w' + g) = m 5 (40 * w' + g) ∧ m' 6 (40 * w' + g) = m 6 (40 * w' + g)) (m4 : ∀ w', w' ≠ w → m' 48 w' = m 48 w') (m5 : ∀ w', w' ≠ w → m' 81 w' = m 81 w') (m6 : m' 81 w = 0) : RK b c' m' := by
  intro w' hw'
  obtain ⟨h1, h2⟩ := h w' hw'
  have k82 := m1 82 (by decide) (by decide)
  have k212 := c1 212 (by decide) (by decide)
  by_cases e : w' = w
  · subst e
    refine ⟨?_, fun j hj => ?_⟩
    · rw [c3, m6, k82, k212]
      exact ⟨rfl, by omega, by omega, h1.2.2.2⟩
    · rw [m6] at hj
      omega
  · have k213 := c2 w' e
    have kx1 : ∀ j, kx c' w' j = kx c w' j := fun j => by unfold kx; rw [k213, k212]
    have ky1 : ∀ j, ky m' w' j = ky m w' j := fun j => by unfold ky; rw [k82]
    have hp : ∀ B t, kpos m' B t = kpos m B t := fun B t => by unfold kpos; rw [m1 83 (by decide) (by decide)]
    have hg40 := (hF.1 w').2
    refine ⟨?_, fun j hj => ?_⟩
    · rw [k213, m5 w' e, k82, k212]
      exact h1
    · rw [m5 w' e] at hj
      obtain ⟨⟨s1, s2, s3, s4, s5, s6, s7⟩, h3, h4⟩ := h2 j hj
      rw [kx1, ky1, m2 w' e]
      refine ⟨⟨?_, ?_, ?_, ?_, ?_, ?_, ?_⟩, ?_, ?_⟩
      · simpa only [c1 2007 (by decide) (by decide), c1 2004 (by decide) (by decide), m1 83 (by decide) (by decide), m1 123 (by decide) (by decide)] using s1
      · intro g hg
        have := s2 g hg
        rw [(m3 w' g e hw' (by omega)).1]
        simpa only [c1 2013 (by decide) (by decide), c1 2016 (by decide) (by decide), m1 83 (by decide) (by decide)] using this
      · simpa only [c1 2006 (by decide) (by decide), m1 83 (by decide) (by decide)] using s3
      · simpa only [c1 2006 (by decide) (by decide), m1 83 (by decide) (by decide)] using s4
      · simpa only [c1 2007 (by decide) (by decide), m1 83 (by decide) (by decide), m4 w' e] using s5
      · intro pl p1 p2
        rcases s6 pl p1 p2 with q | ⟨q, q1, q2, g, k, q3, q4, q5, q6⟩
        · exact Or.inl (by rw [c1 2016 (by decide) (by decide)]; exact q)
        · refine Or.inr ⟨q, by rw [c1 2016 (by decide) (by decide)]; exact q1, ?_, g, k, q3, q4, ?_, ?_⟩
          · simpa only [c1 2016 (by decide) (by decide), m1 83 (by decide) (by decide), m1 24 (by decide) (by decide), m1 28 (by decide) (by decide), m1 29 (by decide) (by decide)] using q2
          · rw [(m3 w' g e hw' (by omega)).2]; exact q5
          · simpa only [c1 2016 (by decide) (by decide), m1 83 (by decide) (by decide), hp] using q6
      · simpa only [c1 2016 (by decide) (by decide), m1 83 (by decide) (by decide)] using s7
      · simpa only [c1 2016 (by decide) (by decide), m1 83 (by decide) (by decide), m1 24 (by decide) (by decide), m1 25 (by decide) (by decide)] using h3
      · simpa only [c1 2016 (by decide) (by decide), m1 83 (by decide) (by decide), kx1, ky1] using h4
/-! ===== a gear as if it came now ===== -/
def bgC (c : h_C) (j : Nat) (k : Int) : h_C := wc (wc (wc (wc (wc (wc (wc (wc (wc (wc (wc (sr (wc (wc c 0 j 0 k) 2 j 0 (sw_tab 0 k.toNat)) 2011 j (fl (c 2011 j) 3 0)) 6 j 0 0) 7 j 0 0) 8 j 0 0) 9 j 0 0) 10 j 0 0) 11 j 0 0) 12 j 0 0) 13 j 0 0) 14 j 0 0) 15 j 0 (-1)) 16 j 0 0
def bgM (m : h_M) (i : Nat) (k : Int) : h_M := wm (wm (wm (wm (wm (wm (wm (wm (wm (wm (wm (wm (wm (wm (wm m 5 i k) 9 i (if k = 1 then 2 else if k = 4 then 4 else if k = 5 ∨ k = 6 then 3 else 1)) 10 i 0) 11 (2 * i) 0) 11 (2 * i + 1) 0) 12 i (-1)) 13 i 0) 14 i 0) 15 i 0) 16 i 0) 17 i 0) 18 i 0) 19 i 0) 20 i 0) 21 i 0
theorem s_begin {j : Nat} (hj : vG j) {k : Int} (h0 : 0 ≤ k) (h1 : k ≤ 10) (c : h_C) : G_Gear_begin j k c = some (bgC c j k) := by
  unfold G_Gear_begin
  refine gdT hj (bX (gdT ⟨h0, by show k < 11; omega⟩ ?_))
  have e : (wc (wc c 0 j 0 k) 2 j 0 (sw_tab 0 k.toNat)) 2011 j = c 2011 j := by
    funext l
    simp [wc_at]
  simp only [bi1, e]
  rfl
theorem s_fresh {i : Nat} (hi : i < 120) {k : Int} (h0 : 0 ≤ k) (h1 : k ≤ 10) (m : h_M) : G_Mo_fresh (i : Int) k m = some (bgM m i k) := by
  unfold G_Mo_fresh
  simp (discharger := omega) only [p_w1, gd1, bi1, s_mRank, q_some, Int.toNat_natCast, show (2 * (i : Int)).toNat = 2 * i by omega, show (2 * (i : Int) + 1).toNat = 2 * i + 1 by omega]
  rfl
theorem bgC_n (c : h_C) (j : Nat) (k : Int) : eC [0, 2, 2011, 6, 7, 8, 9, 10, 11, 12, 13, 14, 15, 16] c (bgC c j k) := by
  unfold bgC
  exact (by repeat first | exact eC.rf _ _ | refine eC.wc ?_ (by decide) _ _ _ | refine eC.sr ?_ (by decide) _ _)
theorem bgM_n (m : h_M) (i : Nat) (k : Int) : eM [5, 9, 10, 11, 12, 13, 14, 15, 16, 17, 18, 19, 20, 21] m (bgM m i k) := by
  unfold bgM
  exact (by repeat first | exact eM.rf _ _ | refine eM.wm ?_ (by decide) _ _)
