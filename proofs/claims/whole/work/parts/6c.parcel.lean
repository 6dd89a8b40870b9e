/-! ===== a parcel is taken up, and set down ===== -/
def PF (b : Nat) (c : h_C) (m : h_M) (w pl q : Nat) : Prop :=
  (1 ≤ q ∧ (q : Int) ≤ m 123 0 ∧ m 24 q = (w : Int) ∧ m 25 q = 1) ∧
  (m 28 q = c 102 (31 * w + pl) 0 ∧ 1 ≤ m 28 q ∧ m 28 q ≤ 999) ∧ (m 29 q = c 103 (31 * w + pl) 0 ∧ 0 ≤ m 29 q ∧ m 29 q ≤ 9) ∧
  (m 30 q = c 104 (31 * w + pl) 0 ∧ (m 30 q = -9 ∨ m 30 q = -8 ∨ (0 ≤ m 30 q ∧ m 30 q < 40))) ∧
  (m 33 q = c 109 (31 * w + pl) 0 ∧ 0 ≤ m 33 q ∧ m 33 q ≤ (b : Int) ∧ ∀ k : Nat, k < 16 → (k : Int) < m 33 q → m 34 (16 * q + k) = c 2014 (31 * w + pl) k) ∧
  (m 31 q = c 111 (31 * w + pl) 0 ∧ -1 ≤ m 31 q ∧ m 31 q ≤ 12 ∧ ∀ k : Nat, k < 12 → (k : Int) < m 31 q → m 32 (12 * q + k) = c 2015 (31 * w + pl) k ∧ 0 ≤ m 32 (12 * q + k) ∧ m 32 (12 * q + k) < 256)
theorem PO.f {b : Nat} {c : h_C} {m : h_M} {w pl q : Nat} (h : PO b c m w pl q) : PF b c m w pl q := ⟨h.1.1, h.2.1, h.2.2.1, h.2.2.2.1, h.2.2.2.2.2.1, h.2.2.2.2.2.2⟩
/-- all parcels but that at place p0 of works w0, number q0, are in a slot; that one is in none -/
def PL (b : Nat) (c : h_C) (m : h_M) (w0 p0 q0 : Nat) : Prop :=
  (∀ w pl : Nat, w < 3 → 1 ≤ pl → pl ≤ 30 → c 100 (31 * w + pl) 0 = (pl : Int)) ∧
  (∀ w g k : Nat, w < 3 → g < 40 → k < 8 → SL c m w g k ∧ ¬ (w = w0 ∧ c 2012 (40 * w + g + 1) k = (p0 : Int))) ∧
  (∀ w pl : Nat, w < 3 → 1 ≤ pl → pl ≤ 30 → ¬ (w = w0 ∧ pl = p0) → c 101 (31 * w + pl) 0 = 0 ∨ ∃ q : Nat, c 101 (31 * w + pl) 0 = (q : Int) ∧ PO b c m w pl q ∧ q ≠ q0) ∧
  (c 101 (31 * w0 + p0) 0 = (q0 : Int) ∧ PF b c m w0 p0 q0) ∧
  (∀ w q : Nat, w < 3 → 1 ≤ q → (q : Int) ≤ m 123 0 → m 24 q = (w : Int) → m 25 q = 1 → ∃ pl : Nat, 1 ≤ pl ∧ pl ≤ 30 ∧ c 101 (31 * w + pl) 0 = (q : Int)) ∧
  (∀ w : Nat, w < 3 → c 302 w 0 = m 38 w ∧ m 38 w = (cnt (fun k => decide (c 101 (31 * w + k + 1) 0 ≠ 0)) 30 : Nat))
theorem RP.lift {b : Nat} {c c1 : h_C} {m m1 : h_M} (h : RP b c m) {w pl q g k : Nat} (hw : w < 3) (h1 : 1 ≤ pl) (h30 : pl ≤ 30) (eq : c 101 (31 * w + pl) 0 = (q : Int)) (hp : PO b c m w pl q) (hg : g < 40) (hk : k < 8) (e5 : c 105 (31 * w + pl) 0 = (g : Int)) (e6 : c 106 (31 * w + pl) 0 = (k : Int))
    (hc : ∀ f ∈ sRP, f ≠ 2012 → c1 f = c f) (hs : ∀ i l, c1 2012 i l = if i = 40 * w + g + 1 ∧ l = k then 0 else c 2012 i l)
    (hm : ∀ f ∈ tRP, f ≠ 22 → m1 f = m f) (ht : ∀ x, m1 22 x = if x = 8 * (40 * w + g) + k then 0 else m 22 x) : PL b c1 m1 w pl q := by
  obtain ⟨p1, p2, p3, p4, p5⟩ := h
  have hp' := hp
  obtain ⟨⟨⟨q1, q2, q3, q4⟩, g0, k0, g40, k8, z1, z2, z3, z4, z5, z6, z7⟩, hrest⟩ := hp'
  obtain rfl : g0 = g := by omega
  obtain rfl : k0 = k := by omega
  refine ⟨?_, fun w' g' k' hw' hg' hk' => ?_, fun w' pl' hw' a b' hn => ?_, ⟨?_, ?_⟩, ?_, ?_⟩
  · rw [hc 100 (by decide) (by decide)]; exact p1
  · have s := p2 w' g' k' hw' hg' hk'
    have hno : ¬ (w' = w ∧ g' = g0 ∧ k' = k0) → ¬ (w' = w ∧ c 2012 (40 * w' + g' + 1) k' = (pl : Int)) := by
      intro hne ⟨ew, es⟩
      subst ew
      rcases s with ⟨s1, s2⟩ | ⟨pl2, s1, s2, s3, s4, s5, s6, s7, s8, s9⟩
      · omega
      · have : pl2 = pl := by omega
        subst this
        omega
    by_cases e : w' = w ∧ g' = g0 ∧ k' = k0
    · obtain ⟨rfl, rfl, rfl⟩ := e
      refine ⟨Or.inl ⟨by rw [hs]; simp, by rw [ht]; simp⟩, fun z => ?_⟩
      rw [hs, if_pos ⟨rfl, rfl⟩] at z
      omega
    · refine ⟨?_, ?_⟩
      · unfold SL at s ⊢
        rw [hs, ht, if_neg (by omega), if_neg (by omega), hc 101 (by decide) (by decide), hc 105 (by decide) (by decide), hc 106 (by decide) (by decide), hm 3 (by decide) (by decide), hm 6 (by decide) (by decide)]
        exact s
      · rw [hs, if_neg (by omega)]
        exact hno e
  · rw [hc 101 (by decide) (by decide)]
    rcases p3 w' pl' hw' a b' with s | ⟨q', s1, s2⟩
    · exact Or.inl s
    · have s2' := s2
      obtain ⟨⟨⟨y1, y2, y3, y4⟩, g', k', g40', k8', x1, x2, x3, x4, x5, x6, x7⟩, y⟩ := s2'
      have hqq : q' ≠ q := fun z => by
        subst z
        have : w' = w := by omega
        subst this
        have : g' = g0 := by omega
        have : k' = k0 := by omega
        subst_vars
        omega
      have hsl : ¬ (40 * w' + g' + 1 = 40 * w + g0 + 1 ∧ k' = k0) := fun z => by
        have : w' = w := by omega
        subst this
        have : g' = g0 := by omega
        subst this
        obtain ⟨_, rfl⟩ := z
        omega
      refine Or.inr ⟨q', s1, ⟨⟨?_, g', k', g40', k8', ?_⟩, ?_⟩, hqq⟩
      · rw [hm 123 (by decide) (by decide), hm 24 (by decide) (by decide), hm 25 (by decide) (by decide)]
        exact ⟨y1, y2, y3, y4⟩
      · rw [hc 105 (by decide) (by decide), hc 106 (by decide) (by decide), hs, if_neg hsl, hm 3 (by decide) (by decide), hm 6 (by decide) (by decide), hm 26 (by decide) (by decide), hm 27 (by decide) (by decide)]
        exact ⟨x1, x2, x3, x4, x5, x6, x7⟩
      · simp only [hm 28 (by decide) (by decide), hm 29 (by decide) (by decide), hm 30 (by decide) (by decide), hm 31 (by decide) (by decide), hm 32 (by decide) (by decide), hm 33 (by decide) (by decide), hm 34 (by decide) (by decide), hm 35 (by decide) (by decide), hc 102 (by decide) (by decide), hc 103 (by decide) (by decide), hc 104 (by decide) (by decide), hc 107 (by decide) (by decide), hc 109 (by decide) (by decide), hc 111 (by decide) (by decide), hc 2014 (by decide) (by decide), hc 2015 (by decide) (by decide)]
        exact y
  · rw [hc 101 (by decide) (by decide)]; exact eq
  · have := hp.f
    unfold PF at this ⊢
    simp only [hm 123 (by decide) (by decide), hm 24 (by decide) (by decide), hm 25 (by decide) (by decide), hm 28 (by decide) (by decide), hm 29 (by decide) (by decide), hm 30 (by decide) (by decide), hm 31 (by decide) (by decide), hm 32 (by decide) (by decide), hm 33 (by decide) (by decide), hm 34 (by decide) (by decide), hc 102 (by decide) (by decide), hc 103 (by decide) (by decide), hc 104 (by decide) (by decide), hc 109 (by decide) (by decide), hc 111 (by decide) (by decide), hc 2014 (by decide) (by decide), hc 2015 (by decide) (by decide)]
    exact this
  · rw [hm 123 (by decide) (by decide), hm 24 (by decide) (by decide), hm 25 (by decide) (by decide), hc 101 (by decide) (by decide)]; exact p4
  · rw [hc 302 (by decide) (by decide), hm 38 (by decide) (by decide), hc 101 (by decide) (by decide)]; exact p5
/-- what setting a parcel down at gear g changes -/
def sdC (w pl g : Nat) (c c2 : h_C) : Prop :=
  eC [2012, 10, 105, 106, 107, 2014, 109] c c2 ∧ (∀ i k, c2 2012 i k = if i = 40 * w + g + 1 ∧ k = 0 then c 100 (31 * w + pl) 0 else c 2012 i k) ∧ (∀ i k, c2 10 i k = if i = 40 * w + g + 1 ∧ k = 0 then p_w (c 10 (40 * w + g + 1) 0 + 1) else c 10 i k) ∧
  (∀ i k, c2 105 i k = if i = 31 * w + pl ∧ k = 0 then (g : Int) else c 105 i k) ∧ (∀ i k, c2 106 i k = if i = 31 * w + pl ∧ k = 0 then 0 else c 106 i k) ∧ (∀ i k, c2 107 i k = if i = 31 * w + pl ∧ k = 0 then 0 else c 107 i k) ∧
  (∀ i k, c2 109 i k = if i = 31 * w + pl ∧ k = 0 then p_w (c 109 (31 * w + pl) 0 + 1) else c 109 i k) ∧ (∀ i k, c2 2014 i k = if i = 31 * w + pl ∧ (k : Int) = c 109 (31 * w + pl) 0 ∧ k < 16 then (g : Int) else c 2014 i k)
def sdM (w q g : Nat) (m m2 : h_M) : Prop :=
  eM [22, 18, 26, 27, 35, 34, 33] m m2 ∧ (∀ x, m2 22 x = if x = 8 * (40 * w + g) then (q : Int) else m 22 x) ∧ (∀ x, m2 18 x = if x = 40 * w + g then p_w (m 18 (40 * w + g) + 1) else m 18 x) ∧
  (∀ x, m2 26 x = if x = q then (g : Int) else m 26 x) ∧ (∀ x, m2 27 x = if x = q then 0 else m 27 x) ∧ (∀ x, m2 35 x = if x = q then 0 else m 35 x) ∧
  (∀ x, m2 33 x = if x = q then p_w (m 33 q + 1) else m 33 x) ∧ (∀ q' k : Nat, k < 16 → m2 34 (16 * q' + k) = if q' = q ∧ (k : Int) = m 33 q then (g : Int) else m 34 (16 * q' + k))
theorem s_setDown {w pl g : Nat} (hw : w < 3) (h1 : 1 ≤ pl) (h30 : pl ≤ 30) (hg : g < 40) {c : h_C} (hL : 0 ≤ c 109 (31 * w + pl) 0) : ∃ c2, G_State_setDown w (31 * w + pl) (g : Int) c = some c2 ∧ sdC w pl g c c2 := by
  have hvp : vP (31 * w + pl) := ⟨by omega, by omega⟩
  have z0 : (0 : Int).toNat = 0 := rfl
  by_cases hl : c 109 (31 * w + pl) 0 < 16
  · obtain ⟨L, eL⟩ : ∃ L : Nat, c 109 (31 * w + pl) 0 = (L : Int) := ⟨(c 109 (31 * w + pl) 0).toNat, by omega⟩
    refine ⟨wc (wc (wc (wc (wc (wc (wc c 2012 (40 * w + g + 1) 0 (c 100 (31 * w + pl) 0)) 10 (40 * w + g + 1) 0 (p_w (c 10 (40 * w + g + 1) 0 + 1))) 105 (31 * w + pl) 0 g) 106 (31 * w + pl) 0 0) 107 (31 * w + pl) 0 0) 2014 (31 * w + pl) L g) 109 (31 * w + pl) 0 (p_w ((L : Int) + 1)), ?_, ?_⟩
    · unfold G_State_setDown GB_State_setDown_61
      simp only [gd1 hw, gd1 hvp, gd1 (show (0 : Int) ≤ (g : Int) ∧ (g : Int) < 40 by omega), gd1 (show (0 : Int) ≤ 0 ∧ (0 : Int) < 8 by omega), bi1, Int.toNat_natCast, z0]
      have r1 : (wc c 2012 (40 * w + g + 1) 0 (c 100 (31 * w + pl) 0)) 10 (40 * w + g + 1) 0 = c 10 (40 * w + g + 1) 0 := by rw [wc_at, if_neg (by omega)]
      rw [r1]
      have r2 : (wc (wc (wc (wc (wc c 2012 (40 * w + g + 1) 0 (c 100 (31 * w + pl) 0)) 10 (40 * w + g + 1) 0 (p_w (c 10 (40 * w + g + 1) 0 + 1))) 105 (31 * w + pl) 0 g) 106 (31 * w + pl) 0 0) 107 (31 * w + pl) 0 0) 109 (31 * w + pl) 0 = (L : Int) := by simp [wc_at, eL]
      rw [r2, if_neg (by omega), gd1 (by omega), Int.toNat_natCast]
      have r3 : (wc (wc (wc (wc (wc (wc c 2012 (40 * w + g + 1) 0 (c 100 (31 * w + pl) 0)) 10 (40 * w + g + 1) 0 (p_w (c 10 (40 * w + g + 1) 0 + 1))) 105 (31 * w + pl) 0 g) 106 (31 * w + pl) 0 0) 107 (31 * w + pl) 0 0) 2014 (31 * w + pl) L g) 109 (31 * w + pl) 0 = (L : Int) := by simp [wc_at, eL]
      rw [r3]
    · refine ⟨(by repeat first | exact eC.rf _ _ | refine eC.wc ?_ (by decide) _ _ _ | refine eC.sr ?_ (by decide) _ _), fun i k => by simp [wc_at], fun i k => by simp [wc_at], fun i k => by simp [wc_at], fun i k => by simp [wc_at], fun i k => by simp [wc_at], fun i k => by simp [wc_at, eL], fun i k => ?_⟩
      simp only [wc_at]
      rw [if_neg (by omega), eL]
      have L16 : L < 16 := by omega
      by_cases e : i = 31 * w + pl ∧ k = L
      · obtain ⟨rfl, rfl⟩ := e
        simp [L16]
      · rw [if_neg (by omega), if_neg (by omega), if_neg (by omega), if_neg (by omega), if_neg (by omega), if_neg (by omega), if_neg (by omega)]
  · refine ⟨wc (wc (wc (wc (wc (wc c 2012 (40 * w + g + 1) 0 (c 100 (31 * w + pl) 0)) 10 (40 * w + g + 1) 0 (p_w (c 10 (40 * w + g + 1) 0 + 1))) 105 (31 * w + pl) 0 g) 106 (31 * w + pl) 0 0) 107 (31 * w + pl) 0 0) 109 (31 * w + pl) 0 (p_w (c 109 (31 * w + pl) 0 + 1)), ?_, ?_⟩
    · unfold G_State_setDown GB_State_setDown_61
      simp only [gd1 hw, gd1 hvp, gd1 (show (0 : Int) ≤ (g : Int) ∧ (g : Int) < 40 by omega), gd1 (show (0 : Int) ≤ 0 ∧ (0 : Int) < 8 by omega), bi1, Int.toNat_natCast, z0]
      have r1 : (wc c 2012 (40 * w + g + 1) 0 (c 100 (31 * w + pl) 0)) 10 (40 * w + g + 1) 0 = c 10 (40 * w + g + 1) 0 := by rw [wc_at, if_neg (by omega)]
      rw [r1]
      have r2 : (wc (wc (wc (wc (wc c 2012 (40 * w + g + 1) 0 (c 100 (31 * w + pl) 0)) 10 (40 * w + g + 1) 0 (p_w (c 10 (40 * w + g + 1) 0 + 1))) 105 (31 * w + pl) 0 g) 106 (31 * w + pl) 0 0) 107 (31 * w + pl) 0 0) 109 (31 * w + pl) 0 = c 109 (31 * w + pl) 0 := by simp [wc_at]
      rw [r2, if_pos (by omega)]
    · refine ⟨(eC.up (l := [2012, 10, 105, 106, 107, 109]) (by repeat first | exact eC.rf _ _ | refine eC.wc ?_ (by decide) _ _ _ | refine eC.sr ?_ (by decide) _ _) (by decide)), fun i k => by simp [wc_at], fun i k => by simp [wc_at], fun i k => by simp [wc_at], fun i k => by simp [wc_at], fun i k => by simp [wc_at], fun i k => by simp [wc_at], fun i k => ?_⟩
      rw [if_neg (by omega)]
      simp [wc_at]
theorem s_enters {w q g : Nat} (hw : w < 3) (hq : q < 2001) (hg : g < 40) {m : h_M} (e1 : m 100 0 = (w : Int)) (hL : 0 ≤ m 33 q) : ∃ m2, G_Mo_enters (q : Int) (g : Int) m = some m2 ∧ sdM w q g m m2 := by
  have i8 : (8 * ((40 * w + g : Nat) : Int)).toNat = 8 * (40 * w + g) := by omega
  by_cases hl : m 33 q < 16
  · obtain ⟨L, eL⟩ : ∃ L : Nat, m 33 q = (L : Int) := ⟨(m 33 q).toNat, by omega⟩
    refine ⟨wm (wm (wm (wm (wm (wm (wm m 22 (8 * (40 * w + g)) q) 18 (40 * w + g) (p_w (m 18 (40 * w + g) + 1))) 26 q g) 27 q 0) 35 q 0) 34 (16 * q + L) g) 33 q (p_w ((L : Int) + 1)), ?_, ?_⟩
    · unfold G_Mo_enters GB_Mo_enters_75
      simp (discharger := omega) only [s_g hw e1 hg, q_some, p_w1 (x := 8 * ((40 * w + g : Nat) : Int)), gd1, i8, bi1, Int.toNat_natCast]
      have r1 : (wm m 22 (8 * (40 * w + g)) q) 18 (40 * w + g) = m 18 (40 * w + g) := by rw [wm_at, if_neg (by omega)]
      rw [r1]
      have r2 : (wm (wm (wm (wm (wm m 22 (8 * (40 * w + g)) q) 18 (40 * w + g) (p_w (m 18 (40 * w + g) + 1))) 26 q g) 27 q 0) 35 q 0) 33 q = (L : Int) := by simp [wm_at, eL]
      rw [r2, if_neg (by omega), p_w1 (x := 16 * (q : Int)) (by omega) (by omega), p_w1 (x := 16 * (q : Int) + (L : Int)) (by omega) (by omega), gd1 (by omega), show (16 * (q : Int) + (L : Int)).toNat = 16 * q + L by omega]
      have r3 : (wm (wm (wm (wm (wm (wm m 22 (8 * (40 * w + g)) q) 18 (40 * w + g) (p_w (m 18 (40 * w + g) + 1))) 26 q g) 27 q 0) 35 q 0) 34 (16 * q + L) g) 33 q = (L : Int) := by simp [wm_at, eL]
      rw [r3]
    · refine ⟨(by repeat first | exact eM.rf _ _ | refine eM.wm ?_ (by decide) _ _), fun x => by simp [wm_at], fun x => by simp [wm_at], fun x => by simp [wm_at], fun x => by simp [wm_at], fun x => by simp [wm_at], fun x => by simp [wm_at, eL], fun q' k hk => ?_⟩
      simp only [wm_at]
      rw [if_neg (by omega), eL]
      by_cases e : q' = q ∧ k = L
      · obtain ⟨rfl, rfl⟩ := e
        simp
      · rw [if_neg (by omega), if_neg (by omega), if_neg (by omega), if_neg (by omega), if_neg (by omega), if_neg (by omega), if_neg (by omega)]
  · refine ⟨wm (wm (wm (wm (wm (wm m 22 (8 * (40 * w + g)) q) 18 (40 * w + g) (p_w (m 18 (40 * w + g) + 1))) 26 q g) 27 q 0) 35 q 0) 33 q (p_w (m 33 q + 1)), ?_, ?_⟩
    · unfold G_Mo_enters GB_Mo_enters_75
      simp (discharger := omega) only [s_g hw e1 hg, q_some, p_w1 (x := 8 * ((40 * w + g : Nat) : Int)), gd1, i8, bi1, Int.toNat_natCast]
      have r1 : (wm m 22 (8 * (40 * w + g)) q) 18 (40 * w + g) = m 18 (40 * w + g) := by rw [wm_at, if_neg (by omega)]
      rw [r1]
      have r2 : (wm (wm (wm (wm (wm m 22 (8 * (40 * w + g)) q) 18 (40 * w + g) (p_w (m 18 (40 * w + g) + 1))) 26 q g) 27 q 0) 35 q 0) 33 q = m 33 q := by simp [wm_at]
      rw [r2, if_pos (by omega)]
    · refine ⟨(eM.up (l := [22, 18, 26, 27, 35, 33]) (by repeat first | exact eM.rf _ _ | refine eM.wm ?_ (by decide) _ _) (by decide)), fun x => by simp [wm_at], fun x => by simp [wm_at], fun x => by simp [wm_at], fun x => by simp [wm_at], fun x => by simp [wm_at], fun x => by simp [wm_at], fun q' k hk => ?_⟩
      rw [if_neg (by omega)]
      simp [wm_at]
theorem PL.down {b : Nat} (hb : b < 2000000000) {c c2 : h_C} {m m2 : h_M} {w pl q g : Nat} (h : PL b c m w pl q) (hw : w < 3) (h1 : 1 ≤ pl) (h30 : pl ≤ 30) (hg : g < 40) (g3 : (g : Int) < m 3 w) (l1 : 1 ≤ m 6 (40 * w + g)) (hs : c 2012 (40 * w + g + 1) 0 = 0) (sc : sdC w pl g c c2) (sm : sdM w q g m m2) : RP (b + 1) c2 m2 := by
  obtain ⟨p1, p2, p3, ⟨p6, ⟨y1, y2, y3, y4⟩, f1, f2, f3, ⟨f4, f5, f6, f7⟩, f8⟩, p4, p5⟩ := h
  obtain ⟨c0, c12, c10, c105, c106, c107, c109, c14⟩ := sc
  obtain ⟨m0, m22, m18, m26, m27, m35, m33, m34⟩ := sm
  have hpl := p1 w pl hw h1 h30
  refine ⟨?_, fun w' g' k' hw' hg' hk' => ?_, fun w' pl' hw' a b' => ?_, ?_, ?_⟩
  · rw [c0 100 (by decide)]; exact p1
  · obtain ⟨s, sn⟩ := p2 w' g' k' hw' hg' hk'
    unfold SL at s ⊢
    rw [c12, m22, c0 101 (by decide), m0 3 (by decide), m0 6 (by decide)]
    by_cases e : w' = w ∧ g' = g ∧ k' = 0
    · obtain ⟨rfl, rfl, rfl⟩ := e
      rw [if_pos ⟨rfl, rfl⟩, if_pos (by omega)]
      exact Or.inr ⟨pl, h1, h30, hpl, by rw [p6]; omega, p6.symm, by rw [c105, if_pos ⟨rfl, rfl⟩], by rw [c106, if_pos ⟨rfl, rfl⟩]; rfl, g3, by omega⟩
    · rw [if_neg (by omega), if_neg (by omega)]
      rcases s with s | ⟨pl2, s1, s2, s3, s4, s5, s6, s7, s8, s9⟩
      · exact Or.inl s
      · have hne : ¬ (31 * w' + pl2 = 31 * w + pl) := fun z => by
          have : w' = w := by omega
          subst this
          exact sn ⟨rfl, by rw [s3]; omega⟩
        exact Or.inr ⟨pl2, s1, s2, s3, s4, s5, by rw [c105, if_neg (fun z => hne z.1)]; exact s6, by rw [c106, if_neg (fun z => hne z.1)]; exact s7, s8, s9⟩
  · rw [c0 101 (by decide)]
    by_cases e : w' = w ∧ pl' = pl
    · obtain ⟨rfl, rfl⟩ := e
      refine Or.inr ⟨q, p6, ⟨⟨?_, g, 0, hg, by omega, ?_⟩, ?_⟩⟩
      · rw [m0 123 (by decide), m0 24 (by decide), m0 25 (by decide)]
        exact ⟨y1, y2, y3, y4⟩
      · rw [c105, c106, c12, m26, m27, m0 3 (by decide), m0 6 (by decide)]
        exact ⟨if_pos ⟨rfl, rfl⟩, by rw [if_pos ⟨rfl, rfl⟩]; rfl, g3, by omega, by rw [if_pos ⟨rfl, rfl⟩]; exact hpl, if_pos rfl, by rw [if_pos rfl]; rfl⟩
      · rw [m0 28 (by decide), m0 29 (by decide), m0 30 (by decide), m0 31 (by decide), m0 32 (by decide), c0 102 (by decide), c0 103 (by decide), c0 104 (by decide), c0 111 (by decide), c0 2015 (by decide), m35, c107, m33, c109]
        simp only [if_true, and_self, eq_self]
        refine ⟨f1, f2, f3, by simp, ⟨by rw [f4], ?_, ?_, fun k k16 kl => ?_⟩, f8⟩
        · rw [p_w1 (by omega) (by omega)]; omega
        · rw [p_w1 (by omega) (by omega)]; omega
        · rw [p_w1 (by omega) (by omega)] at kl
          rw [m34 q k k16, c14, ← f4]
          by_cases ek : (k : Int) = m 33 q
          · rw [if_pos ⟨rfl, ek⟩, if_pos ⟨rfl, ek, k16⟩]
          · rw [if_neg (fun z => ek z.2), if_neg (fun z => ek z.2.1)]
            exact f7 k k16 (by omega)
    · rcases p3 w' pl' hw' a b' e with s | ⟨q', s1, ⟨⟨x0, g', k', g40', k8', x1, x2, x3, x4, x5, x6, x7⟩, t1, t2, t3, t4, ⟨t5, t6, t7, t8⟩, t9⟩, hqq⟩
      · exact Or.inl s
      · have hne : ¬ (31 * w' + pl' = 31 * w + pl) := fun z => e (by omega)
        have hsl : ¬ (40 * w' + g' + 1 = 40 * w + g + 1 ∧ k' = 0) := fun z => by
          have : w' = w := by omega
          subst this
          have : g' = g := by omega
          subst this
          obtain ⟨_, rfl⟩ := z
          omega
        refine Or.inr ⟨q', s1, ⟨⟨?_, g', k', g40', k8', ?_⟩, ?_⟩⟩
        · rw [m0 123 (by decide), m0 24 (by decide), m0 25 (by decide)]
          exact x0
        · rw [c105, c106, c12, m26, m27, m0 3 (by decide), m0 6 (by decide), if_neg (fun z => hne z.1), if_neg (fun z => hne z.1), if_neg hsl, if_neg hqq, if_neg hqq]
          exact ⟨x1, x2, x3, x4, x5, x6, x7⟩
        · rw [m0 28 (by decide), m0 29 (by decide), m0 30 (by decide), m0 31 (by decide), m0 32 (by decide), c0 102 (by decide), c0 103 (by decide), c0 104 (by decide), c0 111 (by decide), c0 2015 (by decide), m35, c107, m33, c109]
          simp only [hne, hqq, false_and, if_false]
          refine ⟨t1, t2, t3, t4, ⟨t5, t6, by omega, fun k k16 kl => ?_⟩, t9⟩
          rw [m34 q' k k16, c14, if_neg (fun z => hqq z.1), if_neg (fun z => hne z.1)]
          exact t8 k k16 kl
  · rw [m0 123 (by decide), m0 24 (by decide), m0 25 (by decide), c0 101 (by decide)]; exact p4
  · rw [c0 302 (by decide), m0 38 (by decide), c0 101 (by decide)]; exact p5
