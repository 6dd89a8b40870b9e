theorem PL.out {b : Nat} {c c2 : h_C} {m m2 : h_M} {w pl q : Nat} (h : PL b c m w pl q) (hw : w < 3) (h1 : 1 ≤ pl) (h30 : pl ≤ 30) (hq : 1 ≤ q) (hc : ∀ f ∈ [2012, 100, 102, 103, 104, 105, 106, 107, 109, 111, 2014, 2015], c2 f = c f) (h101 : ∀ i k, c2 101 i k = if i = 31 * w + pl ∧ k = 0 then 0 else c 101 i k) (h302 : ∀ w', c2 302 w' 0 = if w' = w then c 302 w 0 - 1 else c 302 w' 0) (hm : ∀ f ∈ [3, 6, 22, 24, 26, 27, 28, 29, 30, 31, 32, 33, 34, 35, 123], m2 f = m f) (m25 : ∀ x, m2 25 x = if x = q then 2 else m 25 x) (m38 : ∀ w', m2 38 w' = if w' = w then m 38 w - 1 else m 38 w') : RP b c2 m2 := by
  obtain ⟨p1, p2, p3, ⟨p6, _⟩, p4, p5⟩ := h
  refine ⟨?_, fun w' g' k' hw' hg' hk' => ?_, fun w' pl' hw' a b' => ?_, fun w' q' hw' a1 a2 a3 a4 => ?_, fun w' hw' => ?_⟩
  · rw [hc 100 (by decide)]; exact p1
  · obtain ⟨s, sn⟩ := p2 w' g' k' hw' hg' hk'
    unfold SL at s ⊢
    rw [hc 2012 (by decide), hc 105 (by decide), hc 106 (by decide), hm 22 (by decide), hm 3 (by decide), hm 6 (by decide)]
    rcases s with s | ⟨pl2, s1, s2, s3, s4, s5, s6⟩
    · exact Or.inl s
    · have hne : ¬ (31 * w' + pl2 = 31 * w + pl) := fun z => sn ⟨by omega, by rw [s3]; omega⟩
      exact Or.inr ⟨pl2, s1, s2, s3, by rw [h101, if_neg (fun z => hne z.1)]; exact s4, by rw [h101, if_neg (fun z => hne z.1)]; exact s5, s6⟩
  · rw [h101]
    by_cases e : w' = w ∧ pl' = pl
    · exact Or.inl (if_pos ⟨by rw [e.1, e.2], rfl⟩)
    · rw [if_neg (by omega)]
      rcases p3 w' pl' hw' a b' e with s | ⟨q', s1, ⟨⟨⟨y1, y2, y3, y4⟩, g, k, y5⟩, t1⟩, hqq⟩
      · exact Or.inl s
      · refine Or.inr ⟨q', s1, ⟨⟨⟨y1, by rw [hm 123 (by decide)]; exact y2, by rw [hm 24 (by decide)]; exact y3, by rw [m25, if_neg hqq]; exact y4⟩, g, k, ?_⟩, ?_⟩⟩
        · rw [hc 105 (by decide), hc 106 (by decide), hc 2012 (by decide), hm 3 (by decide), hm 6 (by decide), hm 26 (by decide), hm 27 (by decide)]
          exact y5
        · simp only [hm 28 (by decide), hm 29 (by decide), hm 30 (by decide), hm 31 (by decide), hm 32 (by decide), hm 33 (by decide), hm 34 (by decide), hm 35 (by decide), hc 102 (by decide), hc 103 (by decide), hc 104 (by decide), hc 107 (by decide), hc 109 (by decide), hc 111 (by decide), hc 2014 (by decide), hc 2015 (by decide)]
          exact t1
  · rw [hm 123 (by decide)] at a2
    rw [hm 24 (by decide)] at a3
    rw [m25] at a4
    by_cases e : q' = q
    · rw [if_pos e] at a4; omega
    · rw [if_neg e] at a4
      obtain ⟨pl', b1, b2, b3⟩ := p4 w' q' hw' a1 a2 a3 a4
      refine ⟨pl', b1, b2, ?_⟩
      rw [h101, if_neg (fun z => by rw [z.1, p6] at b3; omega)]
      exact b3
  · obtain ⟨s1, s2⟩ := p5 w' hw'
    rw [h302, m38]
    by_cases e : w' = w
    · subst e
      rw [if_pos rfl, if_pos rfl]
      refine ⟨by rw [s1], ?_⟩
      have e1 : decide (c 101 (31 * w' + (pl - 1) + 1) 0 ≠ 0) = true := by
        rw [show 31 * w' + (pl - 1) + 1 = 31 * w' + pl by omega, p6]
        exact decide_eq_true (by omega)
      have e2 : decide (c2 101 (31 * w' + (pl - 1) + 1) 0 ≠ 0) = false := by
        rw [show 31 * w' + (pl - 1) + 1 = 31 * w' + pl by omega, h101, if_pos ⟨rfl, rfl⟩]
        rfl
      have hcn : cnt (fun k => decide (c2 101 (31 * w' + k + 1) 0 ≠ 0)) 30 + (if decide (c 101 (31 * w' + (pl - 1) + 1) 0 ≠ 0) = true then 1 else 0) = cnt (fun k => decide (c 101 (31 * w' + k + 1) 0 ≠ 0)) 30 + (if decide (c2 101 (31 * w' + (pl - 1) + 1) 0 ≠ 0) = true then 1 else 0) := cnt_set (p := fun k => decide (c 101 (31 * w' + k + 1) 0 ≠ 0)) (q := fun k => decide (c2 101 (31 * w' + k + 1) 0 ≠ 0)) (n := 30) (x := pl - 1) (by omega) (fun k hk hkn => by
        show decide _ = decide _
        rw [h101, if_neg (by omega)])
      rw [e1, e2, if_pos rfl, if_neg (by decide)] at hcn
      omega
    · rw [if_neg e, if_neg e]
      refine ⟨s1, ?_⟩
      rw [s2]
      congr 1
      refine cnt_ext 30 (fun k hk => ?_)
      show decide _ = decide _
      rw [h101, if_neg (by omega)]
theorem s_logAdd2 {w : Nat} (hw : w < 3) {c : h_C} {m : h_M} {b : Nat} (hb : b < 2000000000) (l1 : c 400 (2 * w + 1) 0 = 30) (l3 : c 403 (2 * w + 1) 0 = m 40 w) (l4 : 0 ≤ m 40 w ∧ m 40 w ≤ (b : Int)) (a1 a2 a3 a4 a5 : Int) : ∃ t : Nat, t < 30 ∧ m 40 w % 30 = (t : Int) ∧ G_Log_add (2 * w + 1) a1 a2 a3 a4 a5 c = some (wc (wc (wc (wc (wc (wc c 2005 (2 * w + 1) (5 * t) a1) 2005 (2 * w + 1) (5 * t + 1) a2) 2005 (2 * w + 1) (5 * t + 2) a3) 2005 (2 * w + 1) (5 * t + 3) a4) 2005 (2 * w + 1) (5 * t + 4) a5) 403 (2 * w + 1) 0 (m 40 w + 1)) := by
  have q2 : 0 ≤ m 40 w % 30 ∧ m 40 w % 30 < 30 := ⟨Int.emod_nonneg _ (by omega), Int.emod_lt_of_pos _ (by omega)⟩
  obtain ⟨t, ht⟩ : ∃ t : Nat, m 40 w % 30 = (t : Int) := ⟨(m 40 w % 30).toNat, by omega⟩
  have q3 : ((if (2 * w + 1) % 2 = 0 then 200 else 150 : Nat) : Int) = 150 := by rw [if_neg (by omega)]; rfl
  refine ⟨t, by omega, ht, ?_⟩
  unfold G_Log_add
  have q1 : p_rem (m 40 w) 30 = (t : Int) := by rw [p_rem1 (by omega) (by omega) (by omega), ht]
  rw [gd1 (show vL (2 * w + 1) by omega), l1, gd1 (by decide), l3, q1, p_w1 (by omega) (by omega), bi1, q3]
  have s0 : ((t : Int) * 5).toNat = 5 * t := by omega
  have s1 : ((t : Int) * 5 + 1).toNat = 5 * t + 1 := by omega
  have s2 : ((t : Int) * 5 + 2).toNat = 5 * t + 2 := by omega
  have s3 : ((t : Int) * 5 + 3).toNat = 5 * t + 3 := by omega
  have s4 : ((t : Int) * 5 + 4).toNat = 5 * t + 4 := by omega
  have r : (wc (wc (wc (wc (wc c 2005 (2 * w + 1) (5 * t) a1) 2005 (2 * w + 1) (5 * t + 1) a2) 2005 (2 * w + 1) (5 * t + 2) a3) 2005 (2 * w + 1) (5 * t + 3) a4) 2005 (2 * w + 1) (5 * t + 4) a5) 403 (2 * w + 1) 0 = m 40 w := by simp [wc_at, l3]
  simp (discharger := omega) only [p_w1 (x := (t : Int) * 5 + 1), p_w1 (x := (t : Int) * 5 + 2), p_w1 (x := (t : Int) * 5 + 3), p_w1 (x := (t : Int) * 5 + 4), gd1, bi1, s0, s1, s2, s3, s4, r, p_w1 (x := m 40 w + 1)]
/-- a parcel goes out by door d -/
theorem ZZ.out {b : Nat} (hb : b < 1000000000) {c : h_C} {m : h_M} {w : Nat} {F L : Int} (h : ZZ b c m w F L) {d g pl q : Nat} (hd : (d : Int) < m 3 w) (hg : (g : Int) < m 3 w) (p1 : 1 ≤ pl) (p30 : pl ≤ 30) (hq : 1 ≤ q) (ep : c 101 (31 * w + pl) 0 = (q : Int)) : ∃ c' m', G_Step_leaveBy (d : Int) (g : Int) (31 * w + pl) c = some c' ∧ G_Mo_goesOut (q : Int) (g : Int) (d : Int) m = some m' ∧ ZZ (b + 1) c' m' w F L ∧ eC gC c c' ∧ eM gM m m' := by
  obtain ⟨hR, ⟨hw, e1, e2, e3, e4, e5⟩, hMV, hFD, hF, hFC⟩ := id h
  obtain ⟨d40, i120, hj, _⟩ := hR.gr hw hd
  have hp := hR.po hw p1 p30 hq ep
  obtain ⟨n1, n2, n3, n4⟩ := hR.N
  obtain ⟨⟨⟨q1, q2, q3, q4⟩, g0, k0, g40, k8, z1, z2, z3, z4, z5, z6, z7⟩, hrest⟩ := id hp
  have hvp : vP (31 * w + pl) := ⟨by omega, by omega⟩
  obtain ⟨_, ⟨y1, y2, y3, y4, y5, y6⟩⟩ := hR.L w hw
  have hSt := hR.S w hw
  have hP5 := hR.P.2.2.2.2 w hw
  have hcl := cnt_le (fun k => decide (c 101 (31 * w + k + 1) 0 ≠ 0)) 30
  have a10 := hR.A.2.2.2.2.2.2.2.2.2 w hw
  -- the gears' counts, as the relation has them
  have G1 := hR.f11 (40 * w + g0) (p_w (c 11 (40 * w + g0 + 1) 0 + 1))
  have E1 := (hR.G.1 (40 * w + g0)).1.2.2.2.2.2.1
  have E2 := (hR.G.1 (40 * w + d)).1.2.2.2.2.1
  have G2 := G1.f10 (40 * w + d) (p_w (c 10 (40 * w + d + 1) 0 + 1))
  generalize hx11 : (if d = g0 then p_w (c 11 (40 * w + g0 + 1) 0 + 1) else c 11 (40 * w + d + 1) 0) = x11
  have G3 := G2.f11 (40 * w + d) (p_w (x11 + 1))
  -- class
  generalize hc1 : (wc (wc c 2012 (40 * w + g0 + 1) k0 0) 11 (40 * w + g0 + 1) 0 (p_w (c 11 (40 * w + g0 + 1) 0 + 1))) = c1
  have nc1 : eC [2012, 11] c c1 := by rw [← hc1]; exact (by repeat first | exact eC.rf _ _ | refine eC.wc ?_ (by decide) _ _ _ | refine eC.sr ?_ (by decide) _ _)
  generalize hc2 : wc (wc c1 10 (40 * w + d + 1) 0 (p_w (c 10 (40 * w + d + 1) 0 + 1))) 11 (40 * w + d + 1) 0 (p_w (x11 + 1)) = c2
  have nc2 : eC [10, 11] c1 c2 := by rw [← hc2]; exact (by repeat first | exact eC.rf _ _ | refine eC.wc ?_ (by decide) _ _ _ | refine eC.sr ?_ (by decide) _ _)
  have nc12 : eC [2012, 11, 10] c c2 := (nc1.up (by decide)).tr (nc2.up (by decide))
  obtain ⟨t, t30, ht, hadd⟩ := s_logAdd2 hw (c := c2) (m := m) (b := b) (by omega) (by rw [nc12 400 (by decide)]; exact y1) (by rw [nc12 403 (by decide)]; exact y3) ⟨y4, y5⟩ (q : Int) (d : Int) (m 4 w) (g : Int) 0
  generalize hc3 : (wc (wc (wc (wc (wc (wc c2 2005 (2 * w + 1) (5 * t) (q : Int)) 2005 (2 * w + 1) (5 * t + 1) (d : Int)) 2005 (2 * w + 1) (5 * t + 2) (m 4 w)) 2005 (2 * w + 1) (5 * t + 3) (g : Int)) 2005 (2 * w + 1) (5 * t + 4) 0) 403 (2 * w + 1) 0 (m 40 w + 1)) = c3 at hadd
  have nc3 : eC [2005, 403] c2 c3 := by rw [← hc3]; exact (by repeat first | exact eC.rf _ _ | refine eC.wc ?_ (by decide) _ _ _ | refine eC.sr ?_ (by decide) _ _)
  generalize hc4 : wc (wc (wc c3 2040 0 q (1000 * (w : Int) + (d : Int))) 101 (31 * w + pl) 0 0) 302 w 0 (m 38 w - 1) = c4
  have nc4 : eC [2040, 101, 302] c3 c4 := by rw [← hc4]; exact (by repeat first | exact eC.rf _ _ | refine eC.wc ?_ (by decide) _ _ _ | refine eC.sr ?_ (by decide) _ _)
  have nC : eC [2012, 11, 10, 2005, 403, 2040, 101, 302] c c4 := ((nc12.up (by decide)).tr (nc3.up (by decide))).tr (nc4.up (by decide))
  have nc13 : eC [2012, 11, 10, 2005, 403] c c3 := (nc12.up (by decide)).tr (nc3.up (by decide))
  have hCl : G_Step_leaveBy (d : Int) (g : Int) (31 * w + pl) c = some c4 := by
    unfold G_Step_leaveBy G_Numbers_takeOut
    rw [e5, Int.toNat_natCast, gd1 (by omega), s_lift hw p1 p30 g40 k8 z1 z2, hc1, q_some, nc1 5003 (by decide), e5, Int.toNat_natCast, gd1 (by omega), gd1 (by omega), Int.toNat_natCast, nc1 10 (by decide)]
    refine bX ?_
    have r1 : (wc c1 10 (40 * w + d + 1) 0 (p_w (c 10 (40 * w + d + 1) 0 + 1))) 5003 0 0 = (w : Int) := by rw [wc_at, if_neg (by omega), nc1 5003 (by decide)]; exact e5
    have r2 : (wc c1 10 (40 * w + d + 1) 0 (p_w (c 10 (40 * w + d + 1) 0 + 1))) 11 (40 * w + d + 1) 0 = x11 := by
      rw [wc_at, if_neg (by omega), ← hc1, ← hx11]
      simp only [wc_at]
      by_cases e : d = g0
      · rw [if_pos (by simp [e]), if_pos e]
      · rw [if_neg (by omega), if_neg (by omega), if_neg e]
    rw [r1, Int.toNat_natCast, gd1 (by omega), r2]
    refine bX ?_
    rw [hc2, nc12 5003 (by decide), e5, Int.toNat_natCast, gd1 (by omega), gd1 hvp, nc12 101 (by decide), ep, nc12 300 (by decide), hSt.1, hadd, q_some, nc13 5001 (by decide), gd1 e3, nc13 5002 (by decide), e4, Int.toNat_natCast, gd1 (by omega), nc13 101 (by decide), ep, nc13 200 (by decide), a10, gd1 (by omega), Int.toNat_natCast, p_w1 (x := 1000 * (w : Int)) (by omega) (by omega), p_w1 (x := 1000 * (w : Int) + (d : Int)) (by omega) (by omega), bi1, q_some]
    refine bX ?_
    have r3 : (wc (wc c3 2040 0 q (1000 * (w : Int) + (d : Int))) 101 (31 * w + pl) 0 0) 5003 0 0 = (w : Int) := by simp [wc_at]; rw [nc13 5003 (by decide)]; exact e5
    have r4 : (wc (wc c3 2040 0 q (1000 * (w : Int) + (d : Int))) 101 (31 * w + pl) 0 0) 302 w 0 = m 38 w := by simp [wc_at]; rw [nc13 302 (by decide)]; exact hP5.1
    rw [r3, Int.toNat_natCast, gd1 (by omega), r4, p_w1 (x := m 38 w - 1) (by omega) (by omega), bi1, hc4]
  -- reference
  generalize hm1 : (wm (wm m 22 (8 * (40 * w + g0) + k0) 0) 19 (40 * w + g0) (p_w (m 19 (40 * w + g0) + 1))) = m1
  have nm1 : eM [22, 19] m m1 := by rw [← hm1]; exact (by repeat first | exact eM.rf _ _ | refine eM.wm ?_ (by decide) _ _)
  generalize hm2 : wm (wm (wm (wm (wm m1 25 q 2) 37 q (d : Int)) 18 (40 * w + d) (p_w (m 18 (40 * w + d) + 1))) 19 (40 * w + d) (p_w (x11 + 1))) 38 w (m 38 w - 1) = m2
  have nm2 : eM [25, 37, 18, 19, 38] m1 m2 := by rw [← hm2]; exact (by repeat first | exact eM.rf _ _ | refine eM.wm ?_ (by decide) _ _)
  generalize hm3 : wm (wm (wm (wm (wm m2 41 (120 * w + 4 * t) (q : Int)) 41 (120 * w + 4 * t + 1) (d : Int)) 41 (120 * w + 4 * t + 2) (m 4 w)) 41 (120 * w + 4 * t + 3) (g : Int)) 40 w (m 40 w + 1) = m3
  have nm3 : eM [41, 40] m2 m3 := by rw [← hm3]; exact (by repeat first | exact eM.rf _ _ | refine eM.wm ?_ (by decide) _ _)
  have nm12 : eM [22, 19, 25, 37, 18, 38] m m2 := (nm1.up (by decide)).tr (nm2.up (by decide))
  have nM : eM [22, 19, 25, 37, 18, 38, 41, 40] m m3 := (nm12.up (by decide)).tr (nm3.up (by decide))
  have hMo : G_Mo_goesOut (q : Int) (g : Int) (d : Int) m = some m3 := by
    have q0 : p_rem (m 40 w) 30 = (t : Int) := by rw [p_rem1 (by omega) (by omega) (by omega), ht]
    unfold G_Mo_goesOut GB_Mo_goesOut_149
    rw [e1, Int.toNat_natCast, gd1 (by omega), q0, p_w1 (x := 30 * (w : Int)) (by omega) (by omega), p_w1 (x := 30 * (w : Int) + (t : Int)) (by omega) (by omega)]
    refine bX ?_
    rw [s_leaves hw (by omega) g40 k8 e1 z6 z7, hm1, q_some, gd1 (by omega), Int.toNat_natCast]
    refine bX (bX ?_)
    have k1 : (wm (wm m1 25 q 2) 37 q (d : Int)) 100 0 = (w : Int) := by simp [wm_at]; rw [nm1 100 (by decide)]; exact e1
    have k2 : (wm (wm m1 25 q 2) 37 q (d : Int)) 18 (40 * w + d) = m 18 (40 * w + d) := by simp [wm_at]; rw [nm1 18 (by decide)]
    rw [s_g hw k1 d40, q_some, gd1 (by omega), Int.toNat_natCast, k2]
    refine bX ?_
    have k3 : (wm (wm (wm m1 25 q 2) 37 q (d : Int)) 18 (40 * w + d) (p_w (m 18 (40 * w + d) + 1))) 100 0 = (w : Int) := by simp [wm_at]; rw [nm1 100 (by decide)]; exact e1
    have k4 : (wm (wm (wm m1 25 q 2) 37 q (d : Int)) 18 (40 * w + d) (p_w (m 18 (40 * w + d) + 1))) 19 (40 * w + d) = x11 := by
      simp only [wm_at]
      rw [if_neg (by omega), if_neg (by omega), if_neg (by omega), ← hm1, ← hx11]
      simp only [wm_at]
      by_cases e : d = g0
      · rw [if_pos (by simp [e]), if_pos e, E1]
      · rw [if_neg (by omega), if_neg (by omega), if_neg e, (hR.G.1 (40 * w + d)).1.2.2.2.2.2.1]
    rw [s_g hw k3 d40, q_some, gd1 (by omega), Int.toNat_natCast, k4]
    refine bX ?_
    have k5 : (wm (wm (wm (wm m1 25 q 2) 37 q (d : Int)) 18 (40 * w + d) (p_w (m 18 (40 * w + d) + 1))) 19 (40 * w + d) (p_w (x11 + 1))) 100 0 = (w : Int) := by simp [wm_at]; rw [nm1 100 (by decide)]; exact e1
    have k6 : (wm (wm (wm (wm m1 25 q 2) 37 q (d : Int)) 18 (40 * w + d) (p_w (m 18 (40 * w + d) + 1))) 19 (40 * w + d) (p_w (x11 + 1))) 38 w = m 38 w := by simp [wm_at]; rw [nm1 38 (by decide)]
    rw [k5, Int.toNat_natCast, gd1 (by omega), k6, p_w1 (x := m 38 w - 1) (by omega) (by omega)]
    refine bX ?_
    rw [hm2, p_w1 (x := 4 * (30 * (w : Int) + (t : Int))) (by omega) (by omega), gd1 (by omega), show (4 * (30 * (w : Int) + (t : Int))).toNat = 120 * w + 4 * t by omega]
    refine bX ?_
    rw [p_w1 (x := 4 * (30 * (w : Int) + (t : Int)) + 1) (by omega) (by omega), gd1 (by omega), show (4 * (30 * (w : Int) + (t : Int)) + 1).toNat = 120 * w + 4 * t + 1 by omega]
    refine bX ?_
    have k7 : (wm (wm m2 41 (120 * w + 4 * t) (q : Int)) 41 (120 * w + 4 * t + 1) (d : Int)) 100 0 = (w : Int) := by simp [wm_at]; rw [nm12 100 (by decide)]; exact e1
    have k8' : (wm (wm m2 41 (120 * w + 4 * t) (q : Int)) 41 (120 * w + 4 * t + 1) (d : Int)) 4 w = m 4 w := by simp [wm_at]; rw [nm12 4 (by decide)]
    rw [k7, Int.toNat_natCast, gd1 (by omega), k8', p_w1 (x := 4 * (30 * (w : Int) + (t : Int)) + 2) (by omega) (by omega), gd1 (by omega), show (4 * (30 * (w : Int) + (t : Int)) + 2).toNat = 120 * w + 4 * t + 2 by omega]
    refine bX ?_
    rw [p_w1 (x := 4 * (30 * (w : Int) + (t : Int)) + 3) (by omega) (by omega), gd1 (by omega), show (4 * (30 * (w : Int) + (t : Int)) + 3).toNat = 120 * w + 4 * t + 3 by omega]
    refine bX ?_
    have k9 : (wm (wm (wm (wm m2 41 (120 * w + 4 * t) (q : Int)) 41 (120 * w + 4 * t + 1) (d : Int)) 41 (120 * w + 4 * t + 2) (m 4 w)) 41 (120 * w + 4 * t + 3) (g : Int)) 100 0 = (w : Int) := by simp [wm_at]; rw [nm12 100 (by decide)]; exact e1
    have ka : (wm (wm (wm (wm m2 41 (120 * w + 4 * t) (q : Int)) 41 (120 * w + 4 * t + 1) (d : Int)) 41 (120 * w + 4 * t + 2) (m 4 w)) 41 (120 * w + 4 * t + 3) (g : Int)) 40 w = m 40 w := by simp [wm_at]; rw [nm12 40 (by decide)]
    rw [k9, Int.toNat_natCast, gd1 (by omega), ka, p_w1 (x := m 40 w + 1) (by omega) (by omega), bi1, hm3]
  refine ⟨c4, m3, hCl, hMo, ?_, nC.up (by decide), nM.up (by decide)⟩
  -- the relation
  have hPL : PL b c1 m1 w pl q := RP.lift hR.P hw p1 p30 ep hp g40 k8 z1 z2 (fun f hf hn => by
      rw [← hc1]; funext i l; simp only [wc_at]
      rw [if_neg (fun z => by rw [z.1] at hf; exact absurd hf (by decide)), if_neg (fun z => hn z.1)]) (fun i l => by rw [← hc1]; simp [wc_at]) (fun f hf hn => by
      rw [← hm1]; funext x; simp only [wm_at]
      rw [if_neg (fun z => by rw [z.1] at hf; exact absurd hf (by decide)), if_neg (fun z => hn z.1)]) (fun x => by rw [← hm1]; simp [wm_at])
  have nC14 : eC [10, 11, 2005, 403, 2040, 101, 302] c1 c4 := ((nc2.up (by decide)).tr (nc3.up (by decide))).tr (nc4.up (by decide))
  have nM13 : eM [25, 37, 18, 19, 38, 41, 40] m1 m3 := (nm2.up (by decide)).tr (nm3.up (by decide))
  have hP : RP b c4 m3 := PL.out hPL hw p1 p30 hq (fun f hf => nC14.of hf rfl) (fun i k => by
      rw [← hc4]
      simp only [wc_at]
      by_cases e : i = 31 * w + pl ∧ k = 0
      · rw [if_neg (by omega), if_pos (by simp [e]), if_pos e]
      · rw [if_neg (by omega), if_neg (by omega), if_neg (by omega), if_neg e, nc3 101 (by decide), nc2 101 (by decide)]) (fun w' => by
      rw [← hc4]
      simp only [wc_at]
      by_cases e : w' = w
      · rw [if_pos (by simp [e]), if_pos e, nc1 302 (by decide), hP5.1]
      · rw [if_neg (by omega), if_neg (by omega), if_neg (by omega), if_neg e, nc3 302 (by decide), nc2 302 (by decide)]) (fun f hf => nM13.of hf rfl) (fun x => by rw [nm3 25 (by decide), ← hm2]; simp [wm_at]) (fun w' => by
      rw [nm3 38 (by decide), ← hm2]
      simp only [wm_at]
      by_cases e : w' = w
      · rw [if_pos (by simp [e]), if_pos e, nm1 38 (by decide)]
      · rw [if_neg (by omega), if_neg (by omega), if_neg (by omega), if_neg (by omega), if_neg (by omega), if_neg e])
  have hG : RG c4 m3 := by
    refine G3.G.fr (fun f hf => ?_) (fun f hf => ?_)
    · by_cases ef : f = 10 ∨ f = 11
      · funext i l
        rw [nc4 f (by rcases ef with rfl | rfl <;> decide), nc3 f (by rcases ef with rfl | rfl <;> decide), ← hc2, ← hc1]
        rcases ef with rfl | rfl <;> simp [wc_at]
      · have hz : f ∉ [2012, 11, 10, 2005, 403, 2040, 101, 302] := by
          intro z
          simp [sRG] at hf
          simp at z
          omega
        rw [nC f hz]
        funext i l
        simp only [wc_at]
        rw [if_neg (fun z => ef (Or.inr z.1)), if_neg (fun z => ef (Or.inl z.1)), if_neg (fun z => ef (Or.inr z.1))]
    · by_cases ef : f = 18 ∨ f = 19
      · funext i
        rw [nm3 f (by rcases ef with rfl | rfl <;> decide), ← hm2, ← hm1, E1, E2]
        rcases ef with rfl | rfl <;> simp [wm_at]
      · have hz : f ∉ [22, 19, 25, 37, 18, 38, 41, 40] := by
          intro z
          simp [tRG] at hf
          simp at z
          omega
        rw [nM f hz]
        funext i
        simp only [wm_at]
        rw [if_neg (fun z => ef (Or.inr z.1)), if_neg (fun z => ef (Or.inl z.1)), if_neg (fun z => ef (Or.inr z.1))]
  have r25 : ∀ x, m3 25 x = if x = q then 2 else m 25 x := fun x => by
    rw [nm3 25 (by decide), ← hm2]
    simp only [wm_at]
    by_cases e : x = q
    · simp [e]
    · simp [e, nm1 25 (by decide)]
  have r37 : ∀ x, m3 37 x = if x = q then (d : Int) else m 37 x := fun x => by
    rw [nm3 37 (by decide), ← hm2]
    simp only [wm_at]
    by_cases e : x = q
    · simp [e]
    · simp [e, nm1 37 (by decide)]
  have hN : RN c4 m3 := by
    refine ⟨?_, ?_, ?_, fun x x1 x2 => ?_⟩
    · rw [nC 701 (by decide), nM 123 (by decide)]; exact n1
    · rw [nM 123 (by decide)]; exact n2
    · rw [nM 123 (by decide)]; exact n3
    · rw [nM 123 (by decide)] at x2
      have ec : c4 2040 0 x = if x = q then 1000 * (w : Int) + (d : Int) else c 2040 0 x := by
        rw [← hc4]
        simp only [wc_at]
        by_cases e : x = q
        · simp [e]
        · simp [e, nc13 2040 (by decide)]
      rw [r25, r37, ec, nM 24 (by decide)]
      by_cases e : x = q
      · subst e
        rw [show (if x = x then (2 : Int) else m 25 x) = 2 from if_pos rfl, show (if x = x then (d : Int) else m 37 x) = d from if_pos rfl, show (if x = x then 1000 * (w : Int) + (d : Int) else c 2040 0 x) = 1000 * (w : Int) + (d : Int) from if_pos rfl]
        refine ⟨Or.inr (Or.inr rfl), by omega, by omega, ?_, fun _ => by omega⟩
        rw [if_neg (by omega), if_neg (by omega), q3]
      · simp only [if_neg e]
        exact n4 x x1 x2
  have hL : RL (b + 1) c4 m3 := by
    intro w' hw'
    obtain ⟨⟨a1, a2, a3, a4, a5, a6⟩, ⟨b1, b2, b3, b4, b5, b6⟩⟩ := hR.L w' hw'
    refine ⟨⟨?_, ?_, ?_, ?_, ?_, fun k hk => ?_⟩, ⟨?_, ?_, ?_, ?_, ?_, fun t' r ht' hr => ?_⟩⟩
    · rw [nC 400 (by decide)]; exact a1
    · rw [nC 401 (by decide)]; exact a2
    · rw [nM 42 (by decide), nc4 403 (by decide), ← hc3]
      simp only [wc_at]
      rw [if_neg (by omega), if_neg (by omega), if_neg (by omega), if_neg (by omega), if_neg (by omega), if_neg (by omega), nc12 403 (by decide)]
      exact a3
    · rw [nM 42 (by decide)]; exact a4
    · rw [nM 42 (by decide)]; omega
    · rw [nM 43 (by decide), nc4 2005 (by decide), ← hc3]
      simp only [wc_at]
      rw [if_neg (by omega), if_neg (by omega), if_neg (by omega), if_neg (by omega), if_neg (by omega), if_neg (by omega), nc12 2005 (by decide)]
      exact a6 k hk
    · rw [nC 400 (by decide)]; exact b1
    · rw [nC 401 (by decide)]; exact b2
    · rw [nc4 403 (by decide), ← hc3, ← hm3]
      simp only [wc_at, wm_at]
      by_cases ew : w' = w
      · subst ew
        simp
      · rw [if_neg (by omega), if_neg (by omega), if_neg (by omega), if_neg (by omega), if_neg (by omega), if_neg (by omega), if_neg (by omega), if_neg (by omega), if_neg (by omega), if_neg (by omega), if_neg (by omega), nc12 403 (by decide), nm12 40 (by decide)]
        exact b3
    · rw [← hm3]; simp only [wm_at]
      by_cases ew : w' = w
      · simp [ew]; omega
      · simp [ew]; rw [nm12 40 (by decide)]; exact b4
    · rw [← hm3]; simp only [wm_at]
      by_cases ew : w' = w
      · simp [ew]; omega
      · simp [ew]; rw [nm12 40 (by decide)]; omega
    · rw [nc4 2005 (by decide), ← hc3, ← hm3]
      simp only [wc_at, wm_at]
      by_cases ew : w' = w ∧ t' = t
      · obtain ⟨rfl, rfl⟩ := ew
        have hr4 : r = 0 ∨ r = 1 ∨ r = 2 ∨ r = 3 := by omega
        rcases hr4 with rfl | rfl | rfl | rfl <;> simp
      · rw [if_neg (by omega), if_neg (by omega), if_neg (by omega), if_neg (by omega), if_neg (by omega), if_neg (by omega), if_neg (by omega), if_neg (by omega), if_neg (by omega), if_neg (by omega), if_neg (by omega), nc12 2005 (by decide), nm12 41 (by decide)]
        exact b6 t' r ht' hr
  have hK : RK b c4 m3 := RK.wk hR.K (fun f hf => nC.of hf rfl) (fun f hf hn => by
      refine nM f (fun z => ?_)
      simp [tRK] at hf
      simp at hn z
      omega) (by rw [nM 123 (by decide)]; exact Int.le_refl _) (fun x hx => by
      rw [nM 24 (by decide), nM 28 (by decide), nM 29 (by decide), r25]
      refine ⟨rfl, fun z => ?_, rfl, rfl⟩
      by_cases e : x = q
      · rw [if_pos e] at z; omega
      · rw [if_neg e] at z; exact z)
  have hRR : RR (b + 1) c4 m3 := (RR.gen [2012, 11, 10, 2005, 403, 2040, 101, 302] [22, 19, 25, 37, 18, 38, 41, 40] (hR.more (Nat.le_succ b)) nC nM (Or.inl ⟨rfl, rfl⟩) (Or.inl ⟨rfl, rfl⟩) (Or.inr hG) (Or.inr hN) (Or.inr (hP.more (Nat.le_succ b))) (Or.inr hL) (Or.inl ⟨rfl, rfl⟩) (Or.inl ⟨rfl, rfl⟩) (Or.inl ⟨rfl, rfl⟩) (Or.inl ⟨rfl, rfl⟩) (Or.inl ⟨rfl, rfl⟩) (Or.inr (hK.more (Nat.le_succ b))))
  refine ⟨hRR, ⟨hw, ?_, ?_, ?_, ?_, ?_⟩, fun pl' q' a b' a' e' => ?_, ?_, ?_, ?_⟩
  · rw [nM 100 (by decide)]; exact e1
  · rw [nC 5000 (by decide)]; exact e2
  · rw [nC 5001 (by decide)]; exact e3
  · rw [nC 5002 (by decide)]; exact e4
  · rw [nC 5003 (by decide)]; exact e5
  · rw [nC 108 (by decide), nM 36 (by decide)]
    have e2 : c 101 (31 * w + pl') 0 = (q' : Int) := by
      rw [← hc4] at e'
      simp only [wc_at] at e'
      rw [if_neg (by omega)] at e'
      by_cases z : pl' = pl
      · rw [if_pos (by simp [z])] at e'
        omega
      · rw [if_neg (by omega), if_neg (by omega), nc13 101 (by decide)] at e'
        exact e'
    exact hMV pl' q' a b' a' e2
  · unfold FD
    rw [nC 804 (by decide), nM 171 (by decide), nM 172 (by decide)]
    exact hFD.more (Nat.le_succ b)
  · rw [nC 607 (by decide)]; exact hF
  · rw [nM 102 (by decide), nM 42 (by decide)]; exact hFC
