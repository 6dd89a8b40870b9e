theorem PL.at {b : Nat} {c c2 : h_C} {m m2 : h_M} {w pl q g k : Nat} (h : PL b c m w pl q) (hw : w < 3) (h1 : 1 ≤ pl) (h30 : pl ≤ 30) (hg : g < 40) (hk : k < 8) (g3 : (g : Int) < m 3 w) (l1 : (k : Int) < m 6 (40 * w + g)) (hs : c 2012 (40 * w + g + 1) k = 0) (hsc : m 35 q = c 107 (31 * w + pl) 0 ∧ (m 35 q = 0 ∨ m 35 q = 1)) (hc : ∀ f ∈ [100, 101, 102, 103, 104, 105, 107, 109, 111, 2014, 2015, 302], c2 f = c f) (e5 : c 105 (31 * w + pl) 0 = (g : Int)) (c12 : ∀ i l, c2 2012 i l = if i = 40 * w + g + 1 ∧ l = k then (pl : Int) else c 2012 i l) (c106 : ∀ i l, c2 106 i l = if i = 31 * w + pl ∧ l = 0 then (k : Int) else c 106 i l) (hm : ∀ f ∈ [3, 6, 24, 25, 26, 28, 29, 30, 31, 32, 33, 34, 35, 38, 123], m2 f = m f) (e26 : m 26 q = (g : Int)) (m22 : ∀ x, m2 22 x = if x = 8 * (40 * w + g) + k then (q : Int) else m 22 x) (m27 : ∀ x, m2 27 x = if x = q then (k : Int) else m 27 x) : RP b c2 m2 := by
  obtain ⟨p1, p2, p3, ⟨p6, hN, f1, f2, f3, f4, f5⟩, p4, p5⟩ := h
  refine ⟨?_, fun w' g' k' hw' hg' hk' => ?_, fun w' pl' hw' a b' => ?_, ?_, ?_⟩
  · rw [hc 100 (by decide)]; exact p1
  · obtain ⟨s, sn⟩ := p2 w' g' k' hw' hg' hk'
    unfold SL at s ⊢
    rw [c12, m22, hc 101 (by decide), hc 105 (by decide), hm 3 (by decide), hm 6 (by decide)]
    by_cases e : w' = w ∧ g' = g ∧ k' = k
    · obtain ⟨rfl, rfl, rfl⟩ := e
      rw [if_pos ⟨rfl, rfl⟩, if_pos rfl]
      exact Or.inr ⟨pl, h1, h30, rfl, by rw [p6]; omega, p6.symm, e5, by rw [c106, if_pos ⟨rfl, rfl⟩], g3, l1⟩
    · rw [if_neg (by omega), if_neg (by omega)]
      rcases s with s | ⟨pl2, s1, s2, s3, s4, s5, s6, s7, s8, s9⟩
      · exact Or.inl s
      · have hne : ¬ (31 * w' + pl2 = 31 * w + pl) := fun z => by
          have : w' = w := by omega
          subst this
          exact sn ⟨rfl, by rw [s3]; omega⟩
        exact Or.inr ⟨pl2, s1, s2, s3, s4, s5, s6, by rw [c106, if_neg (fun z => hne z.1)]; exact s7, s8, s9⟩
  · rw [hc 101 (by decide)]
    by_cases e : w' = w ∧ pl' = pl
    · obtain ⟨rfl, rfl⟩ := e
      refine Or.inr ⟨q, p6, ⟨⟨?_, g, k, hg, hk, ?_⟩, ?_⟩⟩
      · rw [hm 123 (by decide), hm 24 (by decide), hm 25 (by decide)]
        exact hN
      · rw [hc 105 (by decide), c106, c12, hm 26 (by decide), m27, hm 3 (by decide), hm 6 (by decide)]
        exact ⟨e5, if_pos ⟨rfl, rfl⟩, g3, l1, if_pos ⟨rfl, rfl⟩, e26, if_pos rfl⟩
      · simp only [hm 28 (by decide), hm 29 (by decide), hm 30 (by decide), hm 31 (by decide), hm 32 (by decide), hm 33 (by decide), hm 34 (by decide), hm 35 (by decide), hc 102 (by decide), hc 103 (by decide), hc 104 (by decide), hc 107 (by decide), hc 109 (by decide), hc 111 (by decide), hc 2014 (by decide), hc 2015 (by decide)]
        exact ⟨f1, f2, f3, hsc, f4, f5⟩
    · rcases p3 w' pl' hw' a b' e with s | ⟨q', s1, ⟨⟨x0, g', k', g40', k8', x1, x2, x3, x4, x5, x6, x7⟩, t1⟩, hqq⟩
      · exact Or.inl s
      · have hne : ¬ (31 * w' + pl' = 31 * w + pl) := fun z => e (by omega)
        have hsl : ¬ (40 * w' + g' + 1 = 40 * w + g + 1 ∧ k' = k) := fun z => by
          have : w' = w := by omega
          subst this
          have : g' = g := by omega
          subst this
          obtain ⟨_, rfl⟩ := z
          omega
        refine Or.inr ⟨q', s1, ⟨⟨?_, g', k', g40', k8', ?_⟩, ?_⟩⟩
        · rw [hm 123 (by decide), hm 24 (by decide), hm 25 (by decide)]; exact x0
        · rw [hc 105 (by decide), c106, c12, hm 26 (by decide), m27, hm 3 (by decide), hm 6 (by decide), if_neg (fun z => hne z.1), if_neg hsl, if_neg hqq]
          exact ⟨x1, x2, x3, x4, x5, x6, x7⟩
        · simp only [hm 28 (by decide), hm 29 (by decide), hm 30 (by decide), hm 31 (by decide), hm 32 (by decide), hm 33 (by decide), hm 34 (by decide), hm 35 (by decide), hc 102 (by decide), hc 103 (by decide), hc 104 (by decide), hc 107 (by decide), hc 109 (by decide), hc 111 (by decide), hc 2014 (by decide), hc 2015 (by decide)]
          exact t1
  · rw [hm 123 (by decide), hm 24 (by decide), hm 25 (by decide), hc 101 (by decide)]; exact p4
  · rw [hc 302 (by decide), hm 38 (by decide), hc 101 (by decide)]; exact p5
theorem ZZ.up1 {b : Nat} {c : h_C} {m : h_M} {w : Nat} {F L : Int} (h : ZZ b c m w F L) {g k pl q : Nat} (hg : (g : Int) < m 3 w) (k7 : k < 7) (hl : ((k + 1 : Nat) : Int) < m 6 (40 * w + g)) (p1 : 1 ≤ pl) (p30 : pl ≤ 30) (hq : 1 ≤ q) (ep : c 101 (31 * w + pl) 0 = (q : Int)) (e5 : c 105 (31 * w + pl) 0 = (g : Int)) (e6 : c 106 (31 * w + pl) 0 = (k : Int)) (hs : c 2012 (40 * w + g + 1) (k + 1) = 0) : ZZ b (wc (wc (wc (wc c 2012 (40 * w + g + 1) k 0) 2012 (40 * w + g + 1) (k + 1) (pl : Int)) 106 (31 * w + pl) 0 ((k + 1 : Nat) : Int)) 108 (31 * w + pl) 0 1) (wm (wm (wm (wm m 22 (8 * (40 * w + g) + (k + 1)) (q : Int)) 22 (8 * (40 * w + g) + k) 0) 27 q ((k + 1 : Nat) : Int)) 36 q 1) w F L := by
  obtain ⟨hR, ⟨hw, e1, _⟩, _⟩ := id h
  obtain ⟨g40, _⟩ := hR.gr hw hg
  have hp := hR.po hw p1 p30 hq ep
  obtain ⟨⟨_, g0, k0, _, _, z1, z2, z3, z4, z5, z6, z7⟩, _, _, _, hsc, _⟩ := id hp
  have hPL : PL b (wc c 2012 (40 * w + g + 1) k 0) (wm m 22 (8 * (40 * w + g) + k) 0) w pl q := RP.lift hR.P hw p1 p30 ep hp g40 (by omega) e5 e6 (fun f hf hn => by
      funext i l; simp only [wc_at]
      rw [if_neg (fun z => hn z.1)]) (fun i l => by simp [wc_at]) (fun f hf hn => by
      funext x; simp only [wm_at]
      rw [if_neg (fun z => hn z.1)]) (fun x => by simp [wm_at])
  have hP : RP b (wc (wc (wc c 2012 (40 * w + g + 1) k 0) 2012 (40 * w + g + 1) (k + 1) (pl : Int)) 106 (31 * w + pl) 0 ((k + 1 : Nat) : Int)) (wm (wm (wm m 22 (8 * (40 * w + g) + (k + 1)) (q : Int)) 22 (8 * (40 * w + g) + k) 0) 27 q ((k + 1 : Nat) : Int)) := by
    refine PL.at hPL hw p1 p30 g40 (k := k + 1) (by omega) (by simpa [wm_at] using hg) (by simpa [wm_at] using hl) ?_ (by simpa [wc_at, wm_at] using hsc) (fun f hf => ?_) (by simp [wc_at, e5]) (fun i l => by simp [wc_at]) (fun i l => by simp [wc_at]) (fun f hf => ?_) (by simp [wm_at]; omega) (fun x => ?_) (fun x => by simp [wm_at])
    · rw [wc_at, if_neg (by omega)]; exact hs
    · funext i l
      simp only [wc_at]
      rw [if_neg (fun z => by rw [z.1] at hf; exact absurd hf (by decide)), if_neg (fun z => by rw [z.1] at hf; exact absurd hf (by decide))]
    · funext x
      simp only [wm_at]
      have n1 : f ≠ 27 := fun z => by rw [z] at hf; exact absurd hf (by decide)
      have n2 : f ≠ 22 := fun z => by rw [z] at hf; exact absurd hf (by decide)
      simp [n1, n2]
    · simp only [wm_at]
      by_cases ex : x = 8 * (40 * w + g) + (k + 1)
      · subst ex
        rw [if_neg (by omega), if_neg (by omega), if_pos (by simp), if_pos rfl]
      · rw [if_neg (by omega), if_neg ex]
        by_cases ey : x = 8 * (40 * w + g) + k
        · rw [if_pos (by simp [ey]), if_pos (by simp [ey])]
        · rw [if_neg (by omega), if_neg (by omega), if_neg (by omega)]
  have hZ : ZZ b (wc (wc (wc c 2012 (40 * w + g + 1) k 0) 2012 (40 * w + g + 1) (k + 1) (pl : Int)) 106 (31 * w + pl) 0 ((k + 1 : Nat) : Int)) (wm (wm (wm m 22 (8 * (40 * w + g) + (k + 1)) (q : Int)) 22 (8 * (40 * w + g) + k) 0) 27 q ((k + 1 : Nat) : Int)) w F L := h.ofE (lc := [2012, 106]) (lm := [22, 27]) (Nat.le_refl _) (RR.gen [2012, 106] [22, 27] hR (by repeat first | exact eC.rf _ _ | refine eC.wc ?_ (by decide) _ _ _ | refine eC.sr ?_ (by decide) _ _) (by repeat first | exact eM.rf _ _ | refine eM.wm ?_ (by decide) _ _) (Or.inl ⟨rfl, rfl⟩) (Or.inl ⟨rfl, rfl⟩) (Or.inl ⟨rfl, rfl⟩) (Or.inl ⟨rfl, rfl⟩) (Or.inr hP) (Or.inl ⟨rfl, rfl⟩) (Or.inl ⟨rfl, rfl⟩) (Or.inl ⟨rfl, rfl⟩) (Or.inl ⟨rfl, rfl⟩) (Or.inl ⟨rfl, rfl⟩) (Or.inl ⟨rfl, rfl⟩) (Or.inl ⟨rfl, rfl⟩)) (by repeat first | exact eC.rf _ _ | refine eC.wc ?_ (by decide) _ _ _ | refine eC.sr ?_ (by decide) _ _) (by repeat first | exact eM.rf _ _ | refine eM.wm ?_ (by decide) _ _) rfl rfl
  exact hZ.mv p1 p30 hq (by simp [wc_at, ep])
theorem ZZ.moveUp {b : Nat} {c : h_C} {m : h_M} {w : Nat} {F L : Int} (h : ZZ b c m w F L) {g : Nat} (hg : (g : Int) < m 3 w) (hk : m 5 (40 * w + g) < 9) : ∃ c' m', G_Step_moveUp (40 * w + g + 1) c = some c' ∧ GO_Mo_actTaker_224 3000 ((40 * w + g : Nat) : Int) (m 6 (40 * w + g) - 2) m = some m' ∧ ZZ b c' m' w F L ∧ eC [2012, 106, 108] c c' ∧ eM [22, 27, 36] m m' := by
  obtain ⟨hR, ⟨hw, e1, _⟩, _⟩ := id h
  obtain ⟨g40, i120, hj, eK, k0, k10, eL, l0, l8, lt, ln⟩ := hR.gr hw hg
  have len1 := lt hk
  have key : ∀ (d fu : Nat) (c : h_C) (m1 : h_M), d < fu → ((d : Nat) : Int) ≤ m 6 (40 * w + g) - 1 → ZZ b c m1 w F L → m1 6 = m 6 → m1 3 = m 3 → ∃ c' m', GO_Step_moveUp_7 fu (40 * w + g + 1) ((d : Int) - 1) c = some c' ∧ GO_Mo_actTaker_224 fu ((40 * w + g : Nat) : Int) ((d : Int) - 1) m1 = some m' ∧ ZZ b c' m' w F L ∧ eC [2012, 106, 108] c c' ∧ eM [22, 27, 36] m1 m' := by
    intro d
    induction d with
    | zero =>
      intro fu c m1 hf hd h1 e6 e3
      obtain ⟨fu, rfl⟩ : ∃ g, fu = g + 1 := ⟨fu - 1, by omega⟩
      refine ⟨c, m1, ?_, ?_, h1, eC.rf _ _, eM.rf _ _⟩
      · show GL_Step_moveUp_7 _ _ _ c = _
        unfold GL_Step_moveUp_7
        rw [if_pos (by omega)]
      · show GL_Mo_actTaker_224 _ _ _ m1 = _
        unfold GL_Mo_actTaker_224
        rw [if_pos (by omega)]
    | succ d ih =>
      intro fu c m1 hf hd h1 e6 e3
      obtain ⟨fu, rfl⟩ : ∃ g, fu = g + 1 := ⟨fu - 1, by omega⟩
      obtain ⟨hR1, ⟨_, f1, f2, f3, f4, f5⟩, hMV, _⟩ := id h1
      have hg1 : (g : Int) < m1 3 w := by rw [e3]; exact hg
      have hd0 : ((d + 1 : Nat) : Int) - 1 = (d : Int) := by omega
      have i8 : (8 * ((40 * w + g : Nat) : Int) + (d : Int)).toNat = 8 * (40 * w + g) + d := by omega
      have i9 : (8 * ((40 * w + g : Nat) : Int) + (d : Int) + 1).toNat = 8 * (40 * w + g) + (d + 1) := by omega
      have n2 := hR1.N.2.2.1
      have skipC : ∀ c1 : h_C, GB_Step_moveUp_74 (GO_Step_moveUp_7 fu) (40 * w + g + 1) (d : Int) c1 = GO_Step_moveUp_7 fu (40 * w + g + 1) ((d : Int) - 1) c1 := fun c1 => by
        unfold GB_Step_moveUp_74
        rw [bi1, p_w1 (by omega) (by omega)]
        rfl
      have skipM : ∀ m2 : h_M, GB_Mo_actTaker_323 (GO_Mo_actTaker_224 fu) ((40 * w + g : Nat) : Int) (d : Int) m2 = GO_Mo_actTaker_224 fu ((40 * w + g : Nat) : Int) ((d : Int) - 1) m2 := fun m2 => by
        unfold GB_Mo_actTaker_323
        rw [bi1, p_w1 (by omega) (by omega)]
        rfl
      rw [hd0]
      -- the reference's round
      have rM : GO_Mo_actTaker_224 (fu + 1) ((40 * w + g : Nat) : Int) (d : Int) m1 = (if m1 22 (8 * (40 * w + g) + d) ≤ 0 then GO_Mo_actTaker_224 fu ((40 * w + g : Nat) : Int) ((d : Int) - 1) m1 else p_gd ((0 : Int) ≤ m1 22 (8 * (40 * w + g) + d) ∧ m1 22 (8 * (40 * w + g) + d) < (2001 : Int)) (if m1 36 (m1 22 (8 * (40 * w + g) + d)).toNat ≠ 0 then GO_Mo_actTaker_224 fu ((40 * w + g : Nat) : Int) ((d : Int) - 1) m1 else if m1 22 (8 * (40 * w + g) + (d + 1)) ≠ 0 then GO_Mo_actTaker_224 fu ((40 * w + g : Nat) : Int) ((d : Int) - 1) m1 else GO_Mo_actTaker_224 fu ((40 * w + g : Nat) : Int) ((d : Int) - 1) (wm (wm (wm (wm m1 22 (8 * (40 * w + g) + (d + 1)) (m1 22 (8 * (40 * w + g) + d))) 22 (8 * (40 * w + g) + d) 0) 27 (m1 22 (8 * (40 * w + g) + d)).toNat ((d + 1 : Nat) : Int)) 36 (m1 22 (8 * (40 * w + g) + d)).toNat 1))) := by
        show GL_Mo_actTaker_224 _ _ _ m1 = _
        unfold GL_Mo_actTaker_224
        rw [if_neg (by omega), p_w1 (x := 8 * ((40 * w + g : Nat) : Int)) (by omega) (by omega), p_w1 (x := 8 * ((40 * w + g : Nat) : Int) + (d : Int)) (by omega) (by omega), p_w1 (x := 8 * ((40 * w + g : Nat) : Int) + (d : Int) + 1) (by omega) (by omega), p_w1 (x := (d : Int) + 1) (by omega) (by omega), gd1 (by omega), i8, i9, bi1]
        simp only [skipM, gd1 (show (0 : Int) ≤ 8 * ((40 * w + g : Nat) : Int) + (d : Int) + 1 ∧ 8 * ((40 * w + g : Nat) : Int) + (d : Int) + 1 < 960 by omega), bi1, show (d : Int) + 1 = ((d + 1 : Nat) : Int) by omega]
      have rC : ∀ j : Nat, G_State_inSlot w (40 * w + g + 1) (d : Int) c = some j → GO_Step_moveUp_7 (fu + 1) (40 * w + g + 1) (d : Int) c = (if j = 0 then GO_Step_moveUp_7 fu (40 * w + g + 1) ((d : Int) - 1) c else p_gd (vP j) (if c 108 j 0 ≠ 0 then GO_Step_moveUp_7 fu (40 * w + g + 1) ((d : Int) - 1) c else if c 2012 (40 * w + g + 1) (d + 1) ≠ 0 then GO_Step_moveUp_7 fu (40 * w + g + 1) ((d : Int) - 1) c else GO_Step_moveUp_7 fu (40 * w + g + 1) ((d : Int) - 1) (wc (wc (wc (wc c 2012 (40 * w + g + 1) d 0) 2012 (40 * w + g + 1) (d + 1) (c 100 j 0)) 106 j 0 ((d + 1 : Nat) : Int)) 108 j 0 1))) := by
        intro j hj'
        show GL_Step_moveUp_7 _ _ _ c = _
        unfold GL_Step_moveUp_7
        have r1 : (wc c 2012 (40 * w + g + 1) d 0) 100 j 0 = c 100 j 0 := by rw [wc_at, if_neg (by omega)]
        rw [if_neg (by omega), f5, Int.toNat_natCast, gd1 (by omega), hj', q_some]
        simp only [skipC, p_w1 (x := (d : Int) + 1) (by omega) (by omega), gd1 hj, gd1 (show (0 : Int) ≤ (d : Int) + 1 ∧ (d : Int) + 1 < 8 by omega), gd1 (show (0 : Int) ≤ (d : Int) ∧ (d : Int) < 8 by omega), bi1, Int.toNat_natCast, show ((d : Int) + 1).toNat = d + 1 by omega, r1]
        simp only [show (d : Int) + 1 = ((d + 1 : Nat) : Int) by omega]
      have skip := ih fu c m1 (by omega) (by omega) h1 e6 e3
      rcases s_inSlot hR1 hw hg1 (k := d) (by omega) with ⟨a1, a2, a3⟩ | ⟨pl, q, b1, b2, b3, b4, b5, b6, b7, b8, b9, b10⟩
      · obtain ⟨c', m', z1, z2, z3⟩ := skip
        refine ⟨c', m', ?_, ?_, z3⟩
        · rw [rC 0 a3, if_pos rfl]; exact z1
        · rw [rM, a2, if_pos (by omega)]; exact z2
      · have hq1 : 1 ≤ q := b9.1.1.1
        have hqn := b9.1.1.2.1
        have hmv := hMV pl q b1 b2 hq1 b5
        have hvp : vP (31 * w + pl) := ⟨by omega, by omega⟩
        have e100 := hR1.P.1 w pl hw b1 b2
        have hs := (hR1.P.2.1 w g (d + 1) hw g40 (by omega)).pos
        rw [rC _ b10, rM, b4, if_neg (show ¬ (31 * w + pl = 0) by omega), if_neg (show ¬ ((q : Int) ≤ 0) by omega), gd1 hvp, gd1 (show (0 : Int) ≤ (q : Int) ∧ (q : Int) < 2001 by omega), Int.toNat_natCast, hmv.1, e100]
        by_cases mv : m1 36 q = 0
        case neg =>
          obtain ⟨c', m', z1, z2, z3⟩ := skip
          exact ⟨c', m', by rw [if_pos mv]; exact z1, by rw [if_pos mv]; exact z2, z3⟩
        simp only [if_neg (show ¬ (m1 36 q ≠ 0) from fun z => z mv)]
        by_cases nx : c 2012 (40 * w + g + 1) (d + 1) = 0
        case neg =>
          obtain ⟨c', m', z1, z2, z3⟩ := skip
          exact ⟨c', m', by rw [if_pos nx]; exact z1, by rw [if_pos (by have := hs.1.mpr nx; omega)]; exact z2, z3⟩
        have nx' : m1 22 (8 * (40 * w + g) + (d + 1)) = 0 := by
          have h2 := hs.2
          by_cases y : 0 < m1 22 (8 * (40 * w + g) + (d + 1))
          · exact absurd nx (hs.1.mp y)
          · omega
        simp only [if_neg (show ¬ (c 2012 (40 * w + g + 1) (d + 1) ≠ 0) from fun z => z nx), if_neg (show ¬ (m1 22 (8 * (40 * w + g) + (d + 1)) ≠ 0) from fun z => z nx')]
        have hZ := h1.up1 hg1 (k := d) (by omega) (by rw [e6]; omega) b1 b2 hq1 b5 b6 b7 nx
        obtain ⟨c', m', z1, z2, z3, z4, z5⟩ := ih fu _ _ (by omega) (by omega) hZ (by funext x; simp [wm_at, e6]) (by funext x; simp [wm_at, e3])
        exact ⟨c', m', z1, z2, z3, eC.tr (by repeat first | exact eC.rf _ _ | refine eC.wc ?_ (by decide) _ _ _ | refine eC.sr ?_ (by decide) _ _) z4, eM.tr (by repeat first | exact eM.rf _ _ | refine eM.wm ?_ (by decide) _ _) z5⟩
  obtain ⟨n, hn⟩ : ∃ n : Nat, m 6 (40 * w + g) = ((n + 1 : Nat) : Int) := ⟨(m 6 (40 * w + g)).toNat - 1, by omega⟩
  obtain ⟨c', m', z1, z2, z3⟩ := key n 3000 c m (by omega) (by omega) h rfl rfl
  refine ⟨c', m', ?_, ?_, z3⟩
  · unfold G_Step_moveUp
    rw [gd1 hj, eL, hn, p_w1 (by omega) (by omega), bi1, show ((n + 1 : Nat) : Int) - 2 = (n : Int) - 1 by omega]
    exact z1
  · rw [hn, show ((n + 1 : Nat) : Int) - 2 = (n : Int) - 1 by omega]
    exact z2
