theorem s_lift {w pl g k : Nat} (hw : w < 3) (h1 : 1 ≤ pl) (h30 : pl ≤ 30) (hg : g < 40) (hk : k < 8) {c : h_C} (e5 : c 105 (31 * w + pl) 0 = (g : Int)) (e6 : c 106 (31 * w + pl) 0 = (k : Int)) : G_State_lift w (31 * w + pl) c = some (wc (wc c 2012 (40 * w + g + 1) k 0) 11 (40 * w + g + 1) 0 (p_w (c 11 (40 * w + g + 1) 0 + 1))) := by
  have hvp : vP (31 * w + pl) := ⟨by omega, by omega⟩
  unfold G_State_lift
  simp only [gd1 hw, gd1 hvp, e5, e6, gd1 (show (0 : Int) ≤ (g : Int) ∧ (g : Int) < 40 by omega), gd1 (show (0 : Int) ≤ (k : Int) ∧ (k : Int) < 8 by omega), bi1, Int.toNat_natCast]
  have r1 : (wc c 2012 (40 * w + g + 1) k 0) 11 (40 * w + g + 1) 0 = c 11 (40 * w + g + 1) 0 := by rw [wc_at, if_neg (by omega)]
  rw [r1]
theorem s_leaves {w q g k : Nat} (hw : w < 3) (hq : q < 2001) (hg : g < 40) (hk : k < 8) {m : h_M} (e1 : m 100 0 = (w : Int)) (e5 : m 26 q = (g : Int)) (e6 : m 27 q = (k : Int)) : G_Mo_leaves (q : Int) m = some (wm (wm m 22 (8 * (40 * w + g) + k) 0) 19 (40 * w + g) (p_w (m 19 (40 * w + g) + 1))) := by
  unfold G_Mo_leaves
  simp (discharger := omega) only [gd1, Int.toNat_natCast, e5, e6, s_g hw e1 hg, q_some, p_w1 (x := 8 * ((40 * w + g : Nat) : Int)), p_w1 (x := 8 * ((40 * w + g : Nat) : Int) + (k : Int)), bi1, show (8 * ((40 * w + g : Nat) : Int) + (k : Int)).toNat = 8 * (40 * w + g) + k by omega]
  have r1 : (wm m 22 (8 * (40 * w + g) + k) 0) 19 (40 * w + g) = m 19 (40 * w + g) := by rw [wm_at, if_neg (by omega)]
  rw [r1]
/-- a parcel goes over to slot 0 of gear g' -/
theorem RR.carry {b : Nat} (hb : b < 2000000000) {c : h_C} {m : h_M} (h : RR b c m) {w pl q g' : Nat} (hw : w < 3) (e1 : m 100 0 = (w : Int)) (h1 : 1 ≤ pl) (h30 : pl ≤ 30) (eq : c 101 (31 * w + pl) 0 = (q : Int)) (hp : PO b c m w pl q) (hg : (g' : Int) < m 3 w) (hk : m 5 (40 * w + g') < 9) (hs : c 2012 (40 * w + g' + 1) 0 = 0) : ∃ c2 m1 m2, G_State_carryOver w (31 * w + pl) (g' : Int) c = some c2 ∧ G_Mo_leaves (q : Int) m = some m1 ∧ G_Mo_enters (q : Int) (g' : Int) m1 = some m2 ∧ RR (b + 1) c2 m2 ∧ eC [2012, 11, 10, 105, 106, 107, 2014, 109] c c2 ∧ eM [22, 19, 18, 26, 27, 35, 34, 33] m m2 := by
  obtain ⟨⟨⟨q1, q2, q3, q4⟩, g, k, g40, k8, z1, z2, z3, z4, z5, z6, z7⟩, hrest⟩ := id hp
  obtain ⟨g40', i120', hj', _, _, _, _, _, _, lt, _⟩ := h.gr hw hg
  have n2 := h.N.2.2.1
  have hL : 0 ≤ m 33 q := hrest.2.2.2.2.1.2.1
  have eL : m 33 q = c 109 (31 * w + pl) 0 := hrest.2.2.2.2.1.1
  generalize hc1 : (wc (wc c 2012 (40 * w + g + 1) k 0) 11 (40 * w + g + 1) 0 (p_w (c 11 (40 * w + g + 1) 0 + 1))) = c1
  generalize hm1 : (wm (wm m 22 (8 * (40 * w + g) + k) 0) 19 (40 * w + g) (p_w (m 19 (40 * w + g) + 1))) = m1
  have nc1 : eC [2012, 11] c c1 := by rw [← hc1]; exact (by repeat first | exact eC.rf _ _ | refine eC.wc ?_ (by decide) _ _ _ | refine eC.sr ?_ (by decide) _ _)
  have nm1 : eM [22, 19] m m1 := by rw [← hm1]; exact (by repeat first | exact eM.rf _ _ | refine eM.wm ?_ (by decide) _ _)
  obtain ⟨c2, x1, x2⟩ := s_setDown (c := c1) hw h1 h30 g40' (by rw [nc1 109 (by decide)]; omega)
  obtain ⟨m2, y1, y2⟩ := s_enters (m := m1) (q := q) hw (by omega) g40' (by rw [nm1 100 (by decide)]; exact e1) (by rw [nm1 33 (by decide)]; exact hL)
  have nC : eC [2012, 11, 10, 105, 106, 107, 2014, 109] c c2 := (nc1.up (by decide)).tr (x2.1.up (by decide))
  have nM : eM [22, 19, 18, 26, 27, 35, 34, 33] m m2 := (nm1.up (by decide)).tr (y2.1.up (by decide))
  refine ⟨c2, m1, m2, ?_, ?_, y1, ?_, nC, nM⟩
  · unfold G_State_carryOver
    rw [gd1 hw, s_lift hw h1 h30 g40 k8 z1 z2, hc1, q_some, x1, q_some]
  · rw [s_leaves hw (by omega) g40 k8 e1 z6 z7, hm1]
  · have hPL : PL b c1 m1 w pl q := RP.lift h.P hw h1 h30 eq hp g40 k8 z1 z2 (fun f hf hn => by
        rw [← hc1]; funext i l; simp only [wc_at]
        rw [if_neg (fun z => by rw [z.1] at hf; exact absurd hf (by decide)), if_neg (fun z => hn z.1)]) (fun i l => by rw [← hc1]; simp [wc_at]) (fun f hf hn => by
        rw [← hm1]; funext x; simp only [wm_at]
        rw [if_neg (fun z => by rw [z.1] at hf; exact absurd hf (by decide)), if_neg (fun z => hn z.1)]) (fun x => by rw [← hm1]; simp [wm_at])
    have hPd := PL.down hb hPL hw h1 h30 g40' (by rw [nm1 3 (by decide)]; exact hg) (by rw [nm1 6 (by decide)]; exact lt hk) (by rw [← hc1]; simp [wc_at, hs]) x2 y2
    have hG := ((h.f11 (40 * w + g) (p_w (c 11 (40 * w + g + 1) 0 + 1))).f10 (40 * w + g') (p_w (c 10 (40 * w + g' + 1) 0 + 1))).G
    have a5 := (h.G.1 (40 * w + g')).1.2.2.2.2.1
    have a6 := (h.G.1 (40 * w + g)).1.2.2.2.2.2.1
    have hG' : RG c2 m2 := by
      refine hG.fr (fun f hf => ?_) (fun f hf => ?_)
      · funext i l
        by_cases e10 : f = 10
        · subst e10
          rw [x2.2.2.1, ← hc1]
          simp only [wc_at]
          by_cases e : i = 40 * w + g' + 1 ∧ l = 0
          · simp [e]
          · simp [e]
        · by_cases e11 : f = 11
          · subst e11
            rw [x2.1 11 (by decide), ← hc1]
            simp [wc_at]
          · have hz : f ∉ [2012, 11, 10, 105, 106, 107, 2014, 109] := by
              intro z
              simp [sRG] at hf
              simp at z
              omega
            rw [nC f hz]
            simp only [wc_at]
            rw [if_neg (fun z => e10 z.1), if_neg (fun z => e11 z.1)]
      · funext i
        by_cases e10 : f = 18
        · subst e10
          rw [y2.2.2.1, ← hm1]
          simp only [wm_at]
          by_cases e : i = 40 * w + g'
          · simp [e, a5]
          · simp [e]
        · by_cases e11 : f = 19
          · subst e11
            rw [y2.1 19 (by decide), ← hm1]
            simp [wm_at, a6]
          · have hz : f ∉ [22, 19, 18, 26, 27, 35, 34, 33] := by
              intro z
              simp [tRG] at hf
              simp at z
              omega
            rw [nM f hz]
            simp only [wm_at]
            rw [if_neg (fun z => e10 z.1), if_neg (fun z => e11 z.1)]
    exact (RR.gen [2012, 11, 10, 105, 106, 107, 2014, 109] [22, 19, 18, 26, 27, 35, 34, 33] (h.more (Nat.le_succ b)) nC nM (Or.inl ⟨rfl, rfl⟩) (Or.inl ⟨rfl, rfl⟩) (Or.inr hG') (Or.inl ⟨rfl, rfl⟩) (Or.inr hPd) (Or.inl ⟨rfl, rfl⟩) (Or.inl ⟨rfl, rfl⟩) (Or.inl ⟨rfl, rfl⟩) (Or.inl ⟨rfl, rfl⟩) (Or.inl ⟨rfl, rfl⟩) (Or.inl ⟨rfl, rfl⟩) (Or.inl ⟨rfl, rfl⟩))
/-! ===== what else is a parcel's ===== -/
theorem RP.one {b : Nat} {c c' : h_C} {m m' : h_M} (h : RP b c m) {w pl q : Nat} (hw : w < 3) (h1 : 1 ≤ pl) (h30 : pl ≤ 30) (eq : c 101 (31 * w + pl) 0 = (q : Int)) (hp : PO b c m w pl q)
    (c1 : ∀ f ∈ [2012, 100, 101, 105, 106, 302], c' f = c f) (c2 : ∀ f ∈ [102, 103, 104, 107, 109, 111, 2014, 2015], ∀ i, i ≠ 31 * w + pl → c' f i = c f i)
    (m1 : ∀ f ∈ [3, 6, 22, 24, 25, 26, 27, 38, 123], m' f = m f) (m2 : ∀ f ∈ [28, 29, 30, 31, 33, 35], ∀ x, x ≠ q → m' f x = m f x) (m3 : ∀ q' k : Nat, q' ≠ q → k < 16 → m' 34 (16 * q' + k) = m 34 (16 * q' + k)) (m4 : ∀ q' k : Nat, q' ≠ q → k < 12 → m' 32 (12 * q' + k) = m 32 (12 * q' + k))
    (hn : (m' 28 q = c' 102 (31 * w + pl) 0 ∧ 1 ≤ m' 28 q ∧ m' 28 q ≤ 999) ∧ (m' 29 q = c' 103 (31 * w + pl) 0 ∧ 0 ≤ m' 29 q ∧ m' 29 q ≤ 9) ∧ (m' 30 q = c' 104 (31 * w + pl) 0 ∧ (m' 30 q = -9 ∨ m' 30 q = -8 ∨ (0 ≤ m' 30 q ∧ m' 30 q < 40))) ∧ (m' 35 q = c' 107 (31 * w + pl) 0 ∧ (m' 35 q = 0 ∨ m' 35 q = 1)) ∧ (m' 33 q = c' 109 (31 * w + pl) 0 ∧ 0 ≤ m' 33 q ∧ m' 33 q ≤ (b : Int) ∧ ∀ k : Nat, k < 16 → (k : Int) < m' 33 q → m' 34 (16 * q + k) = c' 2014 (31 * w + pl) k) ∧ (m' 31 q = c' 111 (31 * w + pl) 0 ∧ -1 ≤ m' 31 q ∧ m' 31 q ≤ 12 ∧ ∀ k : Nat, k < 12 → (k : Int) < m' 31 q → m' 32 (12 * q + k) = c' 2015 (31 * w + pl) k ∧ 0 ≤ m' 32 (12 * q + k) ∧ m' 32 (12 * q + k) < 256)) : RP b c' m' := by
  obtain ⟨p1, p2, p3, p4, p5⟩ := h
  obtain ⟨⟨hx0, g, k, g40, k8, z1, z2, z3, z4, z5, z6, z7⟩, _⟩ := hp
  refine ⟨?_, fun w' g' k' hw' hg' hk' => ?_, fun w' pl' hw' a b' => ?_, ?_, ?_⟩
  · rw [c1 100 (by decide)]; exact p1
  · have s := p2 w' g' k' hw' hg' hk'
    unfold SL at s ⊢
    rw [c1 2012 (by decide), c1 101 (by decide), c1 105 (by decide), c1 106 (by decide), m1 22 (by decide), m1 3 (by decide), m1 6 (by decide)]
    exact s
  · rw [c1 101 (by decide)]
    by_cases e : w' = w ∧ pl' = pl
    · obtain ⟨rfl, rfl⟩ := e
      refine Or.inr ⟨q, eq, ⟨⟨?_, g, k, g40, k8, ?_⟩, hn⟩⟩
      · rw [m1 123 (by decide), m1 24 (by decide), m1 25 (by decide)]; exact hx0
      · rw [c1 105 (by decide), c1 106 (by decide), c1 2012 (by decide), m1 3 (by decide), m1 6 (by decide), m1 26 (by decide), m1 27 (by decide)]
        exact ⟨z1, z2, z3, z4, z5, z6, z7⟩
    · rcases p3 w' pl' hw' a b' with s | ⟨q', s1, ⟨⟨x0, g', k', g40', k8', x1, x2, x3, x4, x5, x6, x7⟩, t1, t2, t3, t4, ⟨t5, t6, t7, t8⟩, t9, t10, t11, t12⟩⟩
      · exact Or.inl s
      · have hne : 31 * w' + pl' ≠ 31 * w + pl := fun z => e (by omega)
        have hqq : q' ≠ q := fun z => by
          subst z
          have : w' = w := by omega
          subst this
          have : g' = g := by omega
          have : k' = k := by omega
          subst_vars
          omega
        refine Or.inr ⟨q', s1, ⟨⟨?_, g', k', g40', k8', ?_⟩, ?_⟩⟩
        · rw [m1 123 (by decide), m1 24 (by decide), m1 25 (by decide)]; exact x0
        · rw [c1 105 (by decide), c1 106 (by decide), c1 2012 (by decide), m1 3 (by decide), m1 6 (by decide), m1 26 (by decide), m1 27 (by decide)]
          exact ⟨x1, x2, x3, x4, x5, x6, x7⟩
        · rw [m2 28 (by decide) q' hqq, m2 29 (by decide) q' hqq, m2 30 (by decide) q' hqq, m2 31 (by decide) q' hqq, m2 33 (by decide) q' hqq, m2 35 (by decide) q' hqq, c2 102 (by decide) _ hne, c2 103 (by decide) _ hne, c2 104 (by decide) _ hne, c2 107 (by decide) _ hne, c2 109 (by decide) _ hne, c2 111 (by decide) _ hne, c2 2014 (by decide) _ hne, c2 2015 (by decide) _ hne]
          exact ⟨t1, t2, t3, t4, ⟨t5, t6, t7, fun k k16 kl => by rw [m3 q' k hqq k16]; exact t8 k k16 kl⟩, t9, t10, t11, fun k k12 kl => by rw [m4 q' k hqq k12]; exact t12 k k12 kl⟩
  · rw [m1 123 (by decide), m1 24 (by decide), m1 25 (by decide), c1 101 (by decide)]; exact p4
  · rw [c1 302 (by decide), m1 38 (by decide), c1 101 (by decide)]; exact p5
theorem RR.p104 {b : Nat} {c : h_C} {m : h_M} (h : RR b c m) {w pl q : Nat} (hw : w < 3) (h1 : 1 ≤ pl) (h30 : pl ≤ 30) (eq : c 101 (31 * w + pl) 0 = (q : Int)) (hp : PO b c m w pl q) (x : Int) (hx : x = -9 ∨ x = -8 ∨ (0 ≤ x ∧ x < 40)) : RR b (wc c 104 (31 * w + pl) 0 x) (wm m 30 q x) := by
  have hP := RP.one (c' := wc c 104 (31 * w + pl) 0 x) (m' := wm m 30 q x) h.P hw h1 h30 eq hp (fun f hf => by funext i l; simp only [wc_at]; rw [if_neg (fun z => by rw [z.1] at hf; exact absurd hf (by decide))]) (fun f hf i hi => by funext l; simp [wc_at, hi]) (fun f hf => by funext i; simp only [wm_at]; rw [if_neg (fun z => by rw [z.1] at hf; exact absurd hf (by decide))]) (fun f hf x hx => by simp [wm_at, hx]) (fun q' k _ _ => by simp [wm_at]) (fun q' k _ _ => by simp [wm_at]) (by
    obtain ⟨_, t1, t2, t3, t4, t5, t6⟩ := hp
    refine ⟨by simpa [wc_at, wm_at] using t1, by simpa [wc_at, wm_at] using t2, by simpa [wc_at, wm_at] using hx, by simpa [wc_at, wm_at] using t4, by simpa [wc_at, wm_at] using t5, by simpa [wc_at, wm_at] using t6⟩)
  exact (RR.gen [104] [30] h (by repeat first | exact eC.rf _ _ | refine eC.wc ?_ (by decide) _ _ _ | refine eC.sr ?_ (by decide) _ _) (by repeat first | exact eM.rf _ _ | refine eM.wm ?_ (by decide) _ _) (Or.inl ⟨rfl, rfl⟩) (Or.inl ⟨rfl, rfl⟩) (Or.inl ⟨rfl, rfl⟩) (Or.inl ⟨rfl, rfl⟩) (Or.inr hP) (Or.inl ⟨rfl, rfl⟩) (Or.inl ⟨rfl, rfl⟩) (Or.inl ⟨rfl, rfl⟩) (Or.inl ⟨rfl, rfl⟩) (Or.inl ⟨rfl, rfl⟩) (Or.inl ⟨rfl, rfl⟩) (Or.inl ⟨rfl, rfl⟩))
theorem RR.p107 {b : Nat} {c : h_C} {m : h_M} (h : RR b c m) {w pl q : Nat} (hw : w < 3) (h1 : 1 ≤ pl) (h30 : pl ≤ 30) (eq : c 101 (31 * w + pl) 0 = (q : Int)) (hp : PO b c m w pl q) (x : Int) (hx : x = 0 ∨ x = 1) : RR b (wc c 107 (31 * w + pl) 0 x) (wm m 35 q x) := by
  have hP := RP.one (c' := wc c 107 (31 * w + pl) 0 x) (m' := wm m 35 q x) h.P hw h1 h30 eq hp (fun f hf => by funext i l; simp only [wc_at]; rw [if_neg (fun z => by rw [z.1] at hf; exact absurd hf (by decide))]) (fun f hf i hi => by funext l; simp [wc_at, hi]) (fun f hf => by funext i; simp only [wm_at]; rw [if_neg (fun z => by rw [z.1] at hf; exact absurd hf (by decide))]) (fun f hf x hx => by simp [wm_at, hx]) (fun q' k _ _ => by simp [wm_at]) (fun q' k _ _ => by simp [wm_at]) (by
    obtain ⟨_, t1, t2, t3, t4, t5, t6⟩ := hp
    refine ⟨by simpa [wc_at, wm_at] using t1, by simpa [wc_at, wm_at] using t2, by simpa [wc_at, wm_at] using t3, by simpa [wc_at, wm_at] using hx, by simpa [wc_at, wm_at] using t5, by simpa [wc_at, wm_at] using t6⟩)
  exact (RR.gen [107] [35] h (by repeat first | exact eC.rf _ _ | refine eC.wc ?_ (by decide) _ _ _ | refine eC.sr ?_ (by decide) _ _) (by repeat first | exact eM.rf _ _ | refine eM.wm ?_ (by decide) _ _) (Or.inl ⟨rfl, rfl⟩) (Or.inl ⟨rfl, rfl⟩) (Or.inl ⟨rfl, rfl⟩) (Or.inl ⟨rfl, rfl⟩) (Or.inr hP) (Or.inl ⟨rfl, rfl⟩) (Or.inl ⟨rfl, rfl⟩) (Or.inl ⟨rfl, rfl⟩) (Or.inl ⟨rfl, rfl⟩) (Or.inl ⟨rfl, rfl⟩) (Or.inl ⟨rfl, rfl⟩) (Or.inl ⟨rfl, rfl⟩))
/-- a parcel after rows of others were changed -/
theorem PO.fr {b : Nat} {c c' : h_C} {m m' : h_M} {w pl q : Nat} (h : PO b c m w pl q) (hc : ∀ f ∈ sRP, c' f = c f) (hm : ∀ f ∈ tRP, m' f = m f) : PO b c' m' w pl q := by
  unfold PO at h ⊢
  simp only [hc 105 (by decide), hc 106 (by decide), hc 2012 (by decide), hc 102 (by decide), hc 103 (by decide), hc 104 (by decide), hc 107 (by decide), hc 109 (by decide), hc 111 (by decide), hc 2014 (by decide), hc 2015 (by decide), hm 3 (by decide), hm 6 (by decide), hm 123 (by decide), hm 24 (by decide), hm 25 (by decide), hm 26 (by decide), hm 27 (by decide), hm 28 (by decide), hm 29 (by decide), hm 30 (by decide), hm 31 (by decide), hm 32 (by decide), hm 33 (by decide), hm 34 (by decide), hm 35 (by decide)]
  exact h
theorem RR.po {b : Nat} {c : h_C} {m : h_M} (h : RR b c m) {w pl q : Nat} (hw : w < 3) (h1 : 1 ≤ pl) (h30 : pl ≤ 30) (hq : 1 ≤ q) (e : c 101 (31 * w + pl) 0 = (q : Int)) : PO b c m w pl q := by
  rcases h.P.2.2.1 w pl hw h1 h30 with z | ⟨q', e', hp⟩
  · omega
  · obtain rfl : q' = q := by omega
    exact hp
theorem pr_carry {b : Nat} (hb : b < 2000000000) {c : h_C} {m : h_M} (h : RR b c m) (hE : c 607 0 0 = m 102 0) (v1 v2 : Int) : PR (b + 1) (G_SW_carry v1 v2 c) (G_Mo_carry v1 v2 m) := by
  have h' := h.more (Nat.le_succ b)
  obtain ⟨w, hw, e1, e2⟩ := h.w
  have n2 := h.N.2.2.1
  unfold G_SW_carry G_Mo_carry GB_SW_carry_31 GB_SW_carry_81 GB_Mo_carry_16 GB_Mo_carry_101
  simp only [e2, Int.toNat_natCast, gd1 (show (0 : Int) ≤ (w : Int) ∧ (w : Int) < 3 by omega), q_eta]
  rcases h.find hw e1 v1 with ⟨pl, q, rfl, p1, p30, ep, hp, f1, f2⟩ | ⟨f1, f2⟩
  case inr =>
    by_cases hg : 0 ≤ v2 ∧ v2 < m 3 w
    · obtain ⟨g, rfl⟩ : ∃ g : Nat, v2 = (g : Int) := ⟨v2.toNat, by omega⟩
      simp only [f1, f2, q_some, s_gearOf hw h.F hg.2, if_true, ne_eq, show ¬ ((1 : Int) = 0) by decide, not_false_eq_true]
      exact pr_refuse h' _ (by omega) hE
    · simp only [f1, f2, q_some, s_gearOf0 hw h.F hg, if_true, ne_eq, show ¬ ((1 : Int) = 0) by decide, not_false_eq_true]
      exact pr_refuse h' _ (by omega) hE
  simp only [f1, f2, q_some, show ¬ (31 * w + pl = 0) by omega, if_false, ne_eq, not_true_eq_false]
  by_cases hg : 0 ≤ v2 ∧ v2 < m 3 w
  case neg =>
    simp only [s_gearOf0 hw h.F hg, s_noGear hw h.F e1, if_neg hg, q_some, not_true_eq_false, if_false, show ¬ ((1 : Int) = 0) by decide]
    exact pr_refuse h' _ (by omega) hE
  obtain ⟨g, rfl⟩ : ∃ g : Nat, v2 = (g : Int) := ⟨v2.toNat, by omega⟩
  obtain ⟨g40, i120, hj, eK, k0, k10, eL, l0, l8, lt, ln⟩ := h.gr hw hg.2
  have hs := (h.P.2.1 w g 0 hw g40 (by omega)).pos
  rw [Nat.add_zero] at hs
  have ht := hp.2.2.2.1.1
  obtain ⟨⟨⟨q1, q2, q3, q4⟩, g0, k0', _, _, z1, z2, z3, z4, z5, z6, z7⟩, _⟩ := id hp
  simp (discharger := omega) only [s_gearOf hw h.F hg.2, s_noGear hw h.F e1, if_pos hg, q_some, gd1 hj, s_cTaker hj, s_cFree hj, s_cChute hj, s_cChuteFor hj, eK, s_g hw e1 g40, s_mTaker, p_w1, gd1, Int.toNat_natCast, show (8 * ((40 * w + g : Nat) : Int)).toNat = 8 * (40 * w + g) by omega, show ¬ (40 * w + g + 1 = 0) by omega, not_false_eq_true, if_true, ← ht]
  by_cases c1 : m 5 (40 * w + g) < 9
  case neg =>
    simp only [if_neg (show ¬ (0 ≤ m 5 (40 * w + g) ∧ m 5 (40 * w + g) < 9) by omega), if_neg c1, not_true_eq_false, if_false]
    exact pr_fault h' _ _ (by omega) (by omega) (by omega) hE
  simp only [if_pos (show 0 ≤ m 5 (40 * w + g) ∧ m 5 (40 * w + g) < 9 by omega), if_pos c1, show ¬ ((1 : Int) = 0) by decide, not_false_eq_true, if_true]
  by_cases c2 : c 2012 (40 * w + g + 1) 0 = 0
  case neg =>
    simp only [if_neg c2, if_pos (hs.1.mpr c2), if_true]
    exact pr_refuse h' _ (by omega) hE
  have c2' : ¬ 0 < m 22 (8 * (40 * w + g)) := fun z => hs.1.mp z c2
  simp only [if_pos c2, if_neg c2', show ¬ ((1 : Int) = 0) by decide, if_false]
  obtain ⟨c3, m1, m2, x1, x2, x3, x4, x5, x6⟩ := h.carry hb hw e1 p1 p30 ep hp hg.2 c1 c2
  have key : PR (b + 1) (GB_SW_carry_88 (g : Int) (31 * w + pl) c) (GB_Mo_carry_108 (q : Int) (g : Int) m) := by
    unfold GB_SW_carry_88 GB_Mo_carry_108
    simp only [gd1 (show vP (31 * w + pl) from ⟨by omega, by omega⟩), gd1 (show (0 : Int) ≤ (q : Int) ∧ (q : Int) < 2001 by omega), bi1, e2, Int.toNat_natCast, gd1 (show (0 : Int) ≤ (w : Int) ∧ (w : Int) < 3 by omega), x1, x2, x3, q_some, q_eta, z1, z6]
    exact pr_done x4 _ (by rw [x5 607 (by decide), x6 102 (by decide)]; exact hE)
  unfold GB_Mo_carry_79
  simp only [gd1 (show (0 : Int) ≤ ((40 * w + g : Nat) : Int) ∧ ((40 * w + g : Nat) : Int) < 120 by omega), gd1 (show (0 : Int) ≤ (q : Int) ∧ (q : Int) < 2001 by omega), gd1 (show vP (31 * w + pl) from ⟨by omega, by omega⟩), Int.toNat_natCast]
  generalize GB_SW_carry_88 (g : Int) (31 * w + pl) c = X at key ⊢
  generalize GB_Mo_carry_108 (q : Int) (g : Int) m = Y at key ⊢
  by_cases k7 : m 5 (40 * w + g) = 7
  · by_cases kt : m 30 q = (g : Int)
    · simp [k7, kt]
      exact key
    · simp [k7, kt]
      exact pr_refuse h' _ (by omega) hE
  · by_cases k8 : m 5 (40 * w + g) = 8
    · by_cases kt : m 30 q = -8
      · simp [k8, kt]
        exact key
      · simp [k8, kt]
        exact pr_refuse h' _ (by omega) hE
    · simp [k7, k8]
      exact key
