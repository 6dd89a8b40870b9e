theorem cnt_all {p : Nat → Bool} (n : Nat) (h : ∀ k, k < n → p k = true) : cnt p n = n := by
  induction n with
  | zero => rfl
  | succ n ih => unfold cnt; rw [ih (fun k hk => h k (by omega)), if_pos (h n (by omega))]
theorem RK.wk {b : Nat} {c c' : h_C} {m m' : h_M} (h : RK b c m) (hc : ∀ f ∈ sRK, c' f = c f) (hm : ∀ f ∈ tRK, f ∉ [24, 25, 28, 29, 123] → m' f = m f) (hn : m 123 0 ≤ m' 123 0) (hx : ∀ x : Nat, (x : Int) ≤ m 123 0 → m' 24 x = m 24 x ∧ (m' 25 x = 1 → m 25 x = 1) ∧ m' 28 x = m 28 x ∧ m' 29 x = m 29 x) : RK b c' m' := by
  intro w hw
  obtain ⟨h1, h2⟩ := h w hw
  have kx1 : ∀ j, kx c' w j = kx c w j := fun j => by unfold kx; rw [hc 212 (by decide), hc 213 (by decide)]
  have ky1 : ∀ j, ky m' w j = ky m w j := fun j => by unfold ky; rw [hm 82 (by decide) (by decide)]
  have k83 := hm 83 (by decide) (by decide)
  have hp : ∀ B t, kpos m' B t = kpos m B t := fun B t => by unfold kpos; rw [k83]
  refine ⟨?_, fun j hj => ?_⟩
  · rw [hc 213 (by decide), hc 212 (by decide), hm 81 (by decide) (by decide), hm 82 (by decide) (by decide)]
    exact h1
  · rw [hm 81 (by decide) (by decide)] at hj
    obtain ⟨⟨s1, s2, s3, s4, s5, s6, s7⟩, h3, h4⟩ := h2 j hj
    have hgv : m 83 (ky m w j + 5) ≤ m 123 0 := s1.2.2.2.2.2.2.2.2.2.2.2.2.2
    rw [kx1, ky1, hm 3 (by decide) (by decide)]
    refine ⟨⟨?_, ?_, ?_, ?_, ?_, ?_, ?_⟩, ?_, ?_⟩
    · obtain ⟨a1, a2, a3, a4, a5, a6, a7, a8, a9, a10, a11, a12, a13, a14⟩ := s1
      rw [hc 2007 (by decide), hc 2004 (by decide), k83]
      exact ⟨a1, a2, a3, a4, a5, a6, a7, a8, a9, a10, a11, a12, a13, by omega⟩
    · rw [hc 2013 (by decide), hc 2016 (by decide), k83, hm 5 (by decide) (by decide)]; exact s2
    · rw [hc 2006 (by decide), k83]; exact s3
    · rw [hc 2006 (by decide), k83]; exact s4
    · rw [hc 2007 (by decide), k83, hm 48 (by decide) (by decide)]; exact s5
    · intro pl p1 p2
      rw [hc 2016 (by decide)]
      rcases s6 pl p1 p2 with q | ⟨q, q1, ⟨⟨z1, z2, z3⟩, z4, z5, z6, z7⟩, q3⟩
      · exact Or.inl q
      · have hq := hx q (by omega)
        refine Or.inr ⟨q, q1, ⟨?_, ?_, ?_⟩, ?_⟩
        · rw [k83, hq.1]; exact ⟨z1, z2, z3⟩
        · rw [hq.2.2.1, hc 2016 (by decide)]; exact z4
        · rw [hq.2.2.1, hq.2.2.2, hc 2016 (by decide)]; exact ⟨z5, z6, z7⟩
        · simpa only [hc 2016 (by decide), k83, hm 6 (by decide) (by decide), hp] using q3
    · rw [hc 2016 (by decide), k83]; exact s7
    · intro q q1 q2 q3 q4
      rw [k83] at q2
      have hq := hx q (by omega)
      rw [hc 2016 (by decide)]
      exact h3 q q1 q2 (by rw [← hq.1]; exact q3) (hq.2.1 q4)
    · simp only [kx1, ky1, hc 2016 (by decide), k83]
      exact h4
theorem s_free {b : Nat} {c : h_C} {m : h_M} (h : RR b c m) {w : Nat} (hw : w < 3) : (m 38 w < 30 ∧ ∃ pl : Nat, 1 ≤ pl ∧ pl ≤ 30 ∧ c 101 (31 * w + pl) 0 = 0 ∧ G_State_freeParcel w c = some (31 * w + pl)) ∨ (m 38 w = 30 ∧ G_State_freeParcel w c = some 0) := by
  have hS := (h.P.2.2.2.2 w hw).2
  have hle := cnt_le (fun k => decide (c 101 (31 * w + k + 1) 0 ≠ 0)) 30
  have key : ∀ (d p fu : Nat), p + d = 31 → 1 ≤ p → d < fu → ((∃ pl : Nat, p ≤ pl ∧ pl ≤ 30 ∧ c 101 (31 * w + pl) 0 = 0 ∧ GO_State_freeParcel_2 fu w (p : Int) c = some (31 * w + pl)) ∨ ((∀ pl : Nat, p ≤ pl → pl ≤ 30 → c 101 (31 * w + pl) 0 ≠ 0) ∧ GO_State_freeParcel_2 fu w (p : Int) c = some 0)) := by
    intro d
    induction d with
    | zero =>
      intro p fu hp h1 hf
      obtain ⟨fu, rfl⟩ : ∃ g, fu = g + 1 := ⟨fu - 1, by omega⟩
      refine Or.inr ⟨fun pl a b' => by omega, ?_⟩
      show GL_State_freeParcel_2 _ _ _ c = _
      unfold GL_State_freeParcel_2
      exact ifT (by omega) rfl
    | succ d ih =>
      intro p fu hp h1 hf
      obtain ⟨fu, rfl⟩ : ∃ g, fu = g + 1 := ⟨fu - 1, by omega⟩
      by_cases hz : c 101 (31 * w + p) 0 = 0
      · refine Or.inl ⟨p, Nat.le_refl _, by omega, hz, ?_⟩
        show GL_State_freeParcel_2 _ _ _ c = _
        unfold GL_State_freeParcel_2
        rw [if_neg (by omega), gd1 hw, gd1 (by omega), gd1 (by omega), Int.toNat_natCast, if_neg (by simp [hz])]
      · have e : GO_State_freeParcel_2 (fu + 1) w (p : Int) c = GO_State_freeParcel_2 fu w ((p + 1 : Nat) : Int) c := by
          show GL_State_freeParcel_2 _ _ _ c = _
          unfold GL_State_freeParcel_2
          rw [if_neg (by omega), gd1 hw, gd1 (by omega), gd1 (by omega), Int.toNat_natCast, if_pos hz, bi1, p_w1 (by omega) (by omega)]
          rfl
        rw [e]
        rcases ih (p + 1) fu (by omega) (by omega) (by omega) with ⟨pl, a, b', z, x⟩ | ⟨a, x⟩
        · exact Or.inl ⟨pl, by omega, b', z, x⟩
        · refine Or.inr ⟨fun pl l1 l2 => ?_, x⟩
          by_cases e : pl = p
          · rw [e]; exact hz
          · exact a pl (by omega) l2
  rcases key 30 1 3000 (by omega) (by omega) (by omega) with ⟨pl, a, b', z, x⟩ | ⟨a, x⟩
  · refine Or.inl ⟨?_, pl, a, b', z, x⟩
    rcases Nat.lt_or_ge (cnt (fun k => decide (c 101 (31 * w + k + 1) 0 ≠ 0)) 30) 30 with q | q
    · omega
    · have := cnt_full (p := fun k => decide (c 101 (31 * w + k + 1) 0 ≠ 0)) (n := 30) (by omega) (pl - 1) (by omega)
      rw [show 31 * w + (pl - 1) + 1 = 31 * w + pl by omega] at this
      simp [z] at this
  · refine Or.inr ⟨?_, x⟩
    have := cnt_all (p := fun k => decide (c 101 (31 * w + k + 1) 0 ≠ 0)) 30 (fun k hk => by
      have := a (k + 1) (by omega) (by omega)
      rw [show 31 * w + (k + 1) = 31 * w + k + 1 by omega] at this
      simpa using this)
    omega
theorem RP.new {b : Nat} {c c2 : h_C} {m m2 : h_M} (h : RP b c m) (hn : 0 ≤ m 123 0) {w pl q : Nat} {wt sz : Int} (hw : w < 3) (h1 : 1 ≤ pl) (h30 : pl ≤ 30) (ez : c 101 (31 * w + pl) 0 = 0) (eq : (q : Int) = m 123 0 + 1) (hwt : 1 ≤ wt ∧ wt ≤ 999) (hsz : 0 ≤ sz ∧ sz ≤ 9)
    (hc : ∀ f ∈ [2012, 100, 105, 106, 107, 2014, 2015], c2 f = c f) (h101 : ∀ i k, c2 101 i k = if i = 31 * w + pl ∧ k = 0 then (q : Int) else c 101 i k) (hco : ∀ f ∈ [102, 103, 104, 109, 111], ∀ i, i ≠ 31 * w + pl → c2 f i = c f i) (v1 : c2 102 (31 * w + pl) 0 = wt) (v2 : c2 103 (31 * w + pl) 0 = sz) (v3 : c2 104 (31 * w + pl) 0 = -9) (v4 : c2 109 (31 * w + pl) 0 = 0) (v5 : c2 111 (31 * w + pl) 0 = -1) (h302 : ∀ w', c2 302 w' 0 = if w' = w then c 302 w 0 + 1 else c 302 w' 0)
    (hm : ∀ f ∈ [3, 6, 22, 26, 27, 32, 34, 35], m2 f = m f) (m123 : m2 123 0 = (q : Int)) (m24 : ∀ x, m2 24 x = if x = q then (w : Int) else m 24 x) (m25 : ∀ x, m2 25 x = if x = q then 1 else m 25 x) (mo : ∀ f ∈ [28, 29, 30, 31, 33], ∀ x, x ≠ q → m2 f x = m f x) (u1 : m2 28 q = wt) (u2 : m2 29 q = sz) (u3 : m2 30 q = -9) (u4 : m2 33 q = 0) (u5 : m2 31 q = -1) (m38 : ∀ w', m2 38 w' = if w' = w then m 38 w + 1 else m 38 w') : PL b c2 m2 w pl q := by
  obtain ⟨p1, p2, p3, p4, p5⟩ := h
  refine ⟨?_, fun w' g' k' hw' hg' hk' => ?_, fun w' pl' hw' a b' hne => ?_, ⟨?_, ?_⟩, fun w' q' hw' a1 a2 a3 a4 => ?_, fun w' hw' => ?_⟩
  · rw [hc 100 (by decide)]; exact p1
  · have s := p2 w' g' k' hw' hg' hk'
    unfold SL at s ⊢
    rw [hc 2012 (by decide), hc 105 (by decide), hc 106 (by decide), hm 22 (by decide), hm 3 (by decide), hm 6 (by decide)]
    rcases s with ⟨s1, s2⟩ | ⟨pl2, s1, s2, s3, s4, s5, s6⟩
    · exact ⟨Or.inl ⟨s1, s2⟩, fun z => by omega⟩
    · have hne : ¬ (31 * w' + pl2 = 31 * w + pl) := fun z => by
        rw [z] at s4
        omega
      refine ⟨Or.inr ⟨pl2, s1, s2, s3, by rw [h101, if_neg (fun z => hne z.1)]; exact s4, by rw [h101, if_neg (fun z => hne z.1)]; exact s5, s6⟩, fun z => hne (by omega)⟩
  · have hx : ¬ (31 * w' + pl' = 31 * w + pl) := fun z => hne (by omega)
    rw [h101, if_neg (fun z => hx z.1)]
    rcases p3 w' pl' hw' a b' with s | ⟨q', s1, ⟨⟨⟨y1, y2, y3, y4⟩, g, k, y5⟩, t1, t2, t3, t4, t5, t6⟩⟩
    · exact Or.inl s
    · have hqq : q' ≠ q := by omega
      refine Or.inr ⟨q', s1, ⟨⟨⟨y1, by omega, ?_, ?_⟩, g, k, ?_⟩, ?_⟩, hqq⟩
      · rw [m24, if_neg hqq]; exact y3
      · rw [m25, if_neg hqq]; exact y4
      · rw [hc 105 (by decide), hc 106 (by decide), hc 2012 (by decide), hm 3 (by decide), hm 6 (by decide), hm 26 (by decide), hm 27 (by decide)]
        exact y5
      · rw [mo 28 (by decide) q' hqq, mo 29 (by decide) q' hqq, mo 30 (by decide) q' hqq, mo 31 (by decide) q' hqq, mo 33 (by decide) q' hqq, hm 32 (by decide), hm 34 (by decide), hm 35 (by decide), hco 102 (by decide) _ hx, hco 103 (by decide) _ hx, hco 104 (by decide) _ hx, hco 109 (by decide) _ hx, hco 111 (by decide) _ hx, hc 107 (by decide), hc 2014 (by decide), hc 2015 (by decide)]
        exact ⟨t1, t2, t3, t4, t5, t6⟩
  · rw [h101, if_pos ⟨rfl, rfl⟩]
  · refine ⟨⟨by omega, by omega, by rw [m24, if_pos rfl], by rw [m25, if_pos rfl]⟩, by rw [u1, v1]; exact ⟨rfl, hwt⟩, by rw [u2, v2]; exact ⟨rfl, hsz⟩, by rw [u3, v3]; exact ⟨rfl, Or.inl rfl⟩, ?_, ?_⟩
    · rw [u4, v4]
      exact ⟨rfl, by omega, by omega, fun k _ kl => by omega⟩
    · rw [u5, v5]
      exact ⟨rfl, by omega, by omega, fun k _ kl => by omega⟩
  · by_cases e : q' = q
    · subst e
      rw [m24, if_pos rfl] at a3
      obtain rfl : w' = w := by omega
      exact ⟨pl, h1, h30, by rw [h101, if_pos ⟨rfl, rfl⟩]⟩
    · rw [m24, if_neg e] at a3
      rw [m25, if_neg e] at a4
      obtain ⟨pl', b1, b2, b3⟩ := p4 w' q' hw' a1 (by omega) a3 a4
      refine ⟨pl', b1, b2, ?_⟩
      rw [h101, if_neg (fun z => by rw [z.1] at b3; omega)]
      exact b3
  · obtain ⟨s1, s2⟩ := p5 w' hw'
    rw [h302, m38]
    by_cases e : w' = w
    · subst e
      rw [if_pos rfl, if_pos rfl]
      refine ⟨by rw [s1], ?_⟩
      have e1 : decide (c 101 (31 * w' + (pl - 1) + 1) 0 ≠ 0) = false := by
        rw [show 31 * w' + (pl - 1) + 1 = 31 * w' + pl by omega, ez]
        rfl
      have e2 : decide (c2 101 (31 * w' + (pl - 1) + 1) 0 ≠ 0) = true := by
        rw [show 31 * w' + (pl - 1) + 1 = 31 * w' + pl by omega, h101, if_pos ⟨rfl, rfl⟩]
        exact decide_eq_true (by omega)
      have hcn : cnt (fun k => decide (c2 101 (31 * w' + k + 1) 0 ≠ 0)) 30 + (if decide (c 101 (31 * w' + (pl - 1) + 1) 0 ≠ 0) = true then 1 else 0) = cnt (fun k => decide (c 101 (31 * w' + k + 1) 0 ≠ 0)) 30 + (if decide (c2 101 (31 * w' + (pl - 1) + 1) 0 ≠ 0) = true then 1 else 0) := cnt_set (p := fun k => decide (c 101 (31 * w' + k + 1) 0 ≠ 0)) (q := fun k => decide (c2 101 (31 * w' + k + 1) 0 ≠ 0)) (n := 30) (x := pl - 1) (by omega) (fun k hk hkn => by
        show decide _ = decide _
        rw [h101, if_neg (by omega)])
      rw [e1, e2, if_neg (by decide), if_pos rfl] at hcn
      omega
    · rw [if_neg e, if_neg e]
      refine ⟨s1, ?_⟩
      rw [s2]
      congr 1
      refine cnt_ext 30 (fun k hk => ?_)
      show decide _ = decide _
      rw [h101, if_neg (by omega)]
/-- a parcel comes to gear g -/
theorem RR.come {b : Nat} (hb : b < 2000000000) {c : h_C} {m : h_M} (h : RR b c m) {w g : Nat} {wt sz : Int} (hw : w < 3) (e1 : m 100 0 = (w : Int)) (e2 : c 5000 0 0 = (w : Int)) (hg : (g : Int) < m 3 w) (hk : m 5 (40 * w + g) < 9) (hs : c 2012 (40 * w + g + 1) 0 = 0) (hwt : 1 ≤ wt ∧ wt ≤ 999) (hsz : 0 ≤ sz ∧ sz ≤ 9) :
    (G_Mo_comesFull m = some 1 ∧ G_SW_newParcel c = some (0, c)) ∨ (G_Mo_comesFull m = some 0 ∧ ∃ pl q c1 c2 m2, 1 ≤ pl ∧ pl ≤ 30 ∧ 1 ≤ q ∧ G_SW_newParcel c = some (31 * w + pl, c1) ∧ c1 5000 0 0 = (w : Int) ∧ G_State_bringIn w (31 * w + pl) (g : Int) wt sz c1 = some c2 ∧ c2 101 (31 * w + pl) 0 = ((q : Nat) : Int) ∧ G_Mo_newParcel (g : Int) wt sz m = some ((q : Int), m2) ∧ RR (b + 1) c2 m2 ∧ c2 5000 0 0 = (w : Int) ∧ m2 100 0 = (w : Int) ∧ c2 607 0 0 = c 607 0 0 ∧ m2 102 0 = m 102 0) := by
  obtain ⟨n1, n2, n3, n4⟩ := h.N
  obtain ⟨g40, i120, hj, _, _, _, _, _, _, lt, _⟩ := h.gr hw hg
  have z0 : (0 : Int).toNat = 0 := rfl
  have eF : G_Mo_comesFull m = some (if m 38 w = 30 ∨ m 123 0 = 2000 then 1 else 0) := by
    unfold G_Mo_comesFull GB_Mo_comesFull_24
    rw [e1, Int.toNat_natCast, gd1 (by omega)]
    repeat' split
    all_goals first | rfl | omega
  rcases s_free h hw with ⟨f0, pl, p1, p30, ez, f1⟩ | ⟨f0, f1⟩
  case inr =>
    refine Or.inl ⟨by rw [eF, if_pos (Or.inl f0)], ?_⟩
    unfold G_SW_newParcel
    rw [e2, Int.toNat_natCast, gd1 (by omega), f1, q_some, if_pos rfl]
  by_cases hfull : m 123 0 = 2000
  · refine Or.inl ⟨by rw [eF, if_pos (Or.inr hfull)], ?_⟩
    unfold G_SW_newParcel
    rw [e2, Int.toNat_natCast, gd1 (by omega), f1, q_some, if_neg (by omega), if_neg (by omega)]
  refine Or.inr ⟨by rw [eF, if_neg (by omega)], ?_⟩
  obtain ⟨q, hq⟩ : ∃ q : Nat, (q : Int) = m 123 0 + 1 := ⟨(m 123 0 + 1).toNat, by omega⟩
  have hvp : vP (31 * w + pl) := ⟨by omega, by omega⟩
  have a10 := h.A.2.2.2.2.2.2.2.2.2 w hw
  have hSt := h.S w hw
  have hP5 := h.P.2.2.2.2 w hw
  have hcl := cnt_le (fun k => decide (c 101 (31 * w + k + 1) 0 ≠ 0)) 30
  -- the class
  generalize hc1 : wc (wc (wc c 701 0 0 (q : Int)) 2040 0 q (-10 - (w : Int))) 101 (31 * w + pl) 0 (q : Int) = c1
  have hN : G_SW_newParcel c = some (31 * w + pl, c1) := by
    unfold G_SW_newParcel G_Numbers_giveTo G_Numbers_insideOf
    rw [e2, Int.toNat_natCast, gd1 (by omega), f1, q_some, if_neg (by omega), if_pos (by omega), a10]
    have r1 : (wc c 701 0 0 (q : Int)) 701 0 0 = (q : Int) := by simp [wc_at]
    have r2 : (wc (wc c 701 0 0 (q : Int)) 2040 0 q (-10 - (w : Int))) 701 0 0 = (q : Int) := by simp [wc_at]
    rw [n1, ← hq, p_w1 (by omega) (by omega), bi1, p_w1 (by omega) (by omega), q_some, r1, gd1 (by omega), Int.toNat_natCast, bi1, r2, q_some2, gd1 hvp, bi1, hc1]
  have w1 : c1 5000 0 0 = (w : Int) := by rw [← hc1]; simp [wc_at, e2]
  have s1 : c1 301 w 0 = m 39 w := by rw [← hc1]; simp [wc_at, hSt.2.2.2]
  have s2 : c1 302 w 0 = m 38 w := by rw [← hc1]; simp [wc_at, hP5.1]
  generalize hc2 : wc (wc (wc (wc (wc (wc (wc c1 102 (31 * w + pl) 0 wt) 103 (31 * w + pl) 0 sz) 104 (31 * w + pl) 0 (-9)) 109 (31 * w + pl) 0 0) 111 (31 * w + pl) 0 (-1)) 301 w 0 (p_w (m 39 w + 1))) 302 w 0 (m 38 w + 1) = c2
  have hsd := s_setDown (c := c2) hw p1 p30 g40 (by rw [← hc2]; simp [wc_at])
  obtain ⟨c3, x1, x2⟩ := hsd
  have hB : G_State_bringIn w (31 * w + pl) (g : Int) wt sz c1 = some c3 := by
    unfold G_State_bringIn
    have r1 : (wc (wc (wc (wc (wc c1 102 (31 * w + pl) 0 wt) 103 (31 * w + pl) 0 sz) 104 (31 * w + pl) 0 (-9)) 109 (31 * w + pl) 0 0) 111 (31 * w + pl) 0 (-1)) 301 w 0 = m 39 w := by simp [wc_at, s1]
    have r2 : (wc (wc (wc (wc (wc (wc c1 102 (31 * w + pl) 0 wt) 103 (31 * w + pl) 0 sz) 104 (31 * w + pl) 0 (-9)) 109 (31 * w + pl) 0 0) 111 (31 * w + pl) 0 (-1)) 301 w 0 (p_w (m 39 w + 1))) 302 w 0 = m 38 w := by simp [wc_at, s2]
    rw [gd1 hvp]
    refine bX (bX (bX (bX (bX ?_))))
    rw [gd1 hw, r1]
    refine bX ?_
    rw [r2, p_w1 (x := m 38 w + 1) (by omega) (by omega)]
    refine bX ?_
    rw [hc2, x1, q_some]
  -- the reference
  generalize hm2 : wm (wm (wm (wm (wm (wm (wm (wm (wm (wm (wm m 123 0 (q : Int)) 24 q (w : Int)) 25 q 1) 28 q wt) 29 q sz) 30 q (-9)) 31 q (-1)) 33 q 0) 36 q 0) 38 w (m 38 w + 1)) 39 w (p_w (m 39 w + 1)) = m2
  have k1 : m2 100 0 = (w : Int) := by rw [← hm2]; simp [wm_at, e1]
  obtain ⟨m3, y1, y2⟩ := s_enters (m := m2) (q := q) hw (by omega) g40 k1 (by rw [← hm2]; simp [wm_at])
  have hM : G_Mo_newParcel (g : Int) wt sz m = some ((q : Int), m3) := by
    unfold G_Mo_newParcel
    rw [← hq, p_w1 (by omega) (by omega)]
    refine bX ?_
    have r1 : (wm m 123 0 (q : Int)) 123 0 = (q : Int) := by simp [wm_at]
    have r2 : (wm m 123 0 (q : Int)) 100 0 = (w : Int) := by simp [wm_at, e1]
    rw [r1]
    refine bX ?_
    rw [gd1 (by omega), Int.toNat_natCast, r2]
    refine bX (bX (bX (bX (bX (bX (bX (bX ?_)))))))
    have r3 : (wm (wm (wm (wm (wm (wm (wm (wm (wm m 123 0 (q : Int)) 24 q (w : Int)) 25 q 1) 28 q wt) 29 q sz) 30 q (-9)) 31 q (-1)) 33 q 0) 36 q 0) 100 0 = (w : Int) := by simp [wm_at, e1]
    have r4 : (wm (wm (wm (wm (wm (wm (wm (wm (wm m 123 0 (q : Int)) 24 q (w : Int)) 25 q 1) 28 q wt) 29 q sz) 30 q (-9)) 31 q (-1)) 33 q 0) 36 q 0) 38 w = m 38 w := by simp [wm_at]
    rw [r3, Int.toNat_natCast, gd1 (by omega), r4, p_w1 (x := m 38 w + 1) (by omega) (by omega)]
    refine bX ?_
    have r5 : (wm (wm (wm (wm (wm (wm (wm (wm (wm (wm m 123 0 (q : Int)) 24 q (w : Int)) 25 q 1) 28 q wt) 29 q sz) 30 q (-9)) 31 q (-1)) 33 q 0) 36 q 0) 38 w (m 38 w + 1)) 100 0 = (w : Int) := by simp [wm_at, e1]
    have r6 : (wm (wm (wm (wm (wm (wm (wm (wm (wm (wm m 123 0 (q : Int)) 24 q (w : Int)) 25 q 1) 28 q wt) 29 q sz) 30 q (-9)) 31 q (-1)) 33 q 0) 36 q 0) 38 w (m 38 w + 1)) 39 w = m 39 w := by simp [wm_at]
    rw [r5, Int.toNat_natCast, gd1 (by omega), r6]
    refine bX ?_
    rw [hm2, y1, q_some]
  -- the relation
  have nc1 : eC [701, 2040, 101] c c1 := by rw [← hc1]; exact (by repeat first | exact eC.rf _ _ | refine eC.wc ?_ (by decide) _ _ _ | refine eC.sr ?_ (by decide) _ _)
  have nc2 : eC [102, 103, 104, 109, 111, 301, 302] c1 c2 := by rw [← hc2]; exact (by repeat first | exact eC.rf _ _ | refine eC.wc ?_ (by decide) _ _ _ | refine eC.sr ?_ (by decide) _ _)
  have nm2 : eM [123, 24, 25, 28, 29, 30, 31, 33, 36, 38, 39] m m2 := by rw [← hm2]; exact (by repeat first | exact eM.rf _ _ | refine eM.wm ?_ (by decide) _ _)
  have nC : eC [701, 2040, 101, 102, 103, 104, 109, 111, 301, 302, 2012, 10, 105, 106, 107, 2014] c c3 := ((nc1.up (by decide)).tr (nc2.up (by decide))).tr (x2.1.up (by decide))
  have nM : eM [123, 24, 25, 28, 29, 30, 31, 33, 36, 38, 39, 22, 18, 26, 27, 35, 34] m m3 := (nm2.up (by decide)).tr (y2.1.up (by decide))
  have nc12 : eC [701, 2040, 101, 102, 103, 104, 109, 111, 301, 302] c c2 := (nc1.up (by decide)).tr (nc2.up (by decide))
  have hPL : PL b c2 m2 w pl q := RP.new h.P n2 hw p1 p30 ez hq hwt hsz (fun f hf => nc12.of hf rfl) (fun i k => by rw [nc2 101 (by decide), ← hc1]; simp [wc_at]) (fun f hf i hi => by
      funext l
      rw [← hc2, ← hc1]
      have h1 : f ≠ 101 ∧ f ≠ 701 ∧ f ≠ 2040 ∧ f ≠ 301 ∧ f ≠ 302 := ⟨fun z => absurd (z ▸ hf) (by decide), fun z => absurd (z ▸ hf) (by decide), fun z => absurd (z ▸ hf) (by decide), fun z => absurd (z ▸ hf) (by decide), fun z => absurd (z ▸ hf) (by decide)⟩
      simp [wc_at, hi, h1]) (by rw [← hc2]; simp [wc_at]) (by rw [← hc2]; simp [wc_at]) (by rw [← hc2]; simp [wc_at]) (by rw [← hc2]; simp [wc_at]) (by rw [← hc2]; simp [wc_at]) (fun w' => by
      rw [← hc2]
      simp only [wc_at]
      by_cases e : w' = w
      · simp [e, hP5.1]
      · simp [e]
        rw [← hc1]
        simp [wc_at]) (fun f hf => nm2.of hf rfl) (by rw [← hm2]; simp [wm_at]) (fun x => by rw [← hm2]; simp [wm_at]) (fun x => by rw [← hm2]; simp [wm_at]) (fun f hf x hx => by
      rw [← hm2]
      have h1 : f ≠ 123 ∧ f ≠ 24 ∧ f ≠ 25 ∧ f ≠ 36 ∧ f ≠ 38 ∧ f ≠ 39 := ⟨fun z => absurd (z ▸ hf) (by decide), fun z => absurd (z ▸ hf) (by decide), fun z => absurd (z ▸ hf) (by decide), fun z => absurd (z ▸ hf) (by decide), fun z => absurd (z ▸ hf) (by decide), fun z => absurd (z ▸ hf) (by decide)⟩
      simp [wm_at, hx, h1]) (by rw [← hm2]; simp [wm_at]) (by rw [← hm2]; simp [wm_at]) (by rw [← hm2]; simp [wm_at]) (by rw [← hm2]; simp [wm_at]) (by rw [← hm2]; simp [wm_at]) (fun w' => by rw [← hm2]; simp [wm_at])
  have hPd := PL.down hb hPL hw p1 p30 g40 (by rw [nm2 3 (by decide)]; exact hg) (by rw [nm2 6 (by decide)]; exact lt hk) (by rw [nc12 2012 (by decide)]; exact hs) x2 y2
  have hG : RG c3 m3 := by
    refine (h.f10 (40 * w + g) (p_w (c 10 (40 * w + g + 1) 0 + 1))).G.fr (fun f hf => ?_) (fun f hf => ?_)
    · funext i l
      by_cases e10 : f = 10
      · subst e10
        rw [x2.2.2.1, nc12 10 (by decide)]
        simp only [wc_at]
        by_cases e : i = 40 * w + g + 1 ∧ l = 0
        · simp [e]
        · simp [e]
      · have hz : f ∉ [701, 2040, 101, 102, 103, 104, 109, 111, 301, 302, 2012, 10, 105, 106, 107, 2014] := by
          intro z
          simp [sRG] at hf
          simp at z
          omega
        rw [nC f hz]
        simp only [wc_at]
        rw [if_neg (fun z => e10 z.1)]
    · funext i
      by_cases e10 : f = 18
      · subst e10
        rw [y2.2.2.1, nm2 18 (by decide), (h.G.1 (40 * w + g)).1.2.2.2.2.1]
        simp only [wm_at]
        by_cases e : i = 40 * w + g
        · simp [e]
        · simp [e]
      · have hz : f ∉ [123, 24, 25, 28, 29, 30, 31, 33, 36, 38, 39, 22, 18, 26, 27, 35, 34] := by
          intro z
          simp [tRG] at hf
          simp at z
          omega
        rw [nM f hz]
        simp only [wm_at]
        rw [if_neg (fun z => e10 z.1)]
  have r123 : m3 123 0 = (q : Int) := by rw [y2.1 123 (by decide), ← hm2]; simp [wm_at]
  have r24 : ∀ x, m3 24 x = if x = q then (w : Int) else m 24 x := fun x => by rw [y2.1 24 (by decide), ← hm2]; simp [wm_at]
  have r25 : ∀ x, m3 25 x = if x = q then 1 else m 25 x := fun x => by rw [y2.1 25 (by decide), ← hm2]; simp [wm_at]
  have r28 : ∀ x, x ≠ q → m3 28 x = m 28 x := fun x hx => by rw [y2.1 28 (by decide), ← hm2]; simp [wm_at, hx]
  have r29 : ∀ x, x ≠ q → m3 29 x = m 29 x := fun x hx => by rw [y2.1 29 (by decide), ← hm2]; simp [wm_at, hx]
  have hRN : RN c3 m3 := by
    refine ⟨?_, by omega, by omega, fun x x1' x2' => ?_⟩
    · rw [r123, x2.1 701 (by decide), nc2 701 (by decide), ← hc1]; simp [wc_at]
    · have ec : c3 2040 0 x = if x = q then -10 - (w : Int) else c 2040 0 x := by rw [x2.1 2040 (by decide), nc2 2040 (by decide), ← hc1]; simp [wc_at]
      rw [r24, r25, ec, nM 37 (by decide)]
      by_cases e : x = q
      · rw [if_pos e, if_pos e, if_pos e]
        exact ⟨Or.inr (Or.inl rfl), by omega, by omega, by simp, fun z => by omega⟩
      · rw [if_neg e, if_neg e, if_neg e]
        exact n4 x x1' (by omega)
  have hRS : RS b c3 m3 := by
    intro w' hw'
    obtain ⟨t1, t2, t3, t4⟩ := h.S w' hw'
    rw [nC 300 (by decide), nM 4 (by decide)]
    refine ⟨t1, t2, t3, ?_⟩
    rw [x2.1 301 (by decide), y2.1 39 (by decide), ← hc2, ← hm2]
    simp only [wc_at, wm_at]
    by_cases e : w' = w
    · simp [e]
    · simp [e]
      rw [← hc1]
      simp [wc_at, t4]
  have hRK : RK b c3 m3 := RK.wk h.K (fun f hf => nC.of hf rfl) (fun f hf hn => by
      refine nM f (fun z => ?_)
      simp [tRK] at hf
      simp at hn z
      omega) (by omega) (fun x hx => by
      have e : x ≠ q := by omega
      rw [r24, r25, r28 x e, r29 x e, if_neg e, if_neg e]
      exact ⟨rfl, id, rfl, rfl⟩)
  have hR : RR (b + 1) c3 m3 := (RR.gen [701, 2040, 101, 102, 103, 104, 109, 111, 301, 302, 2012, 10, 105, 106, 107, 2014] [123, 24, 25, 28, 29, 30, 31, 33, 36, 38, 39, 22, 18, 26, 27, 35, 34] (h.more (Nat.le_succ b)) nC nM (Or.inl ⟨rfl, rfl⟩) (Or.inl ⟨rfl, rfl⟩) (Or.inr hG) (Or.inr hRN) (Or.inr hPd) (Or.inl ⟨rfl, rfl⟩) (Or.inl ⟨rfl, rfl⟩) (Or.inl ⟨rfl, rfl⟩) (Or.inl ⟨rfl, rfl⟩) (Or.inl ⟨rfl, rfl⟩) (Or.inr (hRS.more (Nat.le_succ b))) (Or.inr (hRK.more (Nat.le_succ b))))
  exact ⟨pl, q, c1, c3, m3, p1, p30, by omega, hN, w1, hB, by rw [x2.1 101 (by decide), nc2 101 (by decide), ← hc1]; simp [wc_at], hM, hR, by rw [nC 5000 (by decide)]; exact e2, by rw [nM 100 (by decide)]; exact e1, by rw [nC 607 (by decide)], by rw [nM 102 (by decide)]⟩
theorem pr_come {b : Nat} (hb : b < 2000000000) {c : h_C} {m : h_M} (h : RR b c m) (hE : c 607 0 0 = m 102 0) (v1 v2 v3 : Int) : PR (b + 1) (G_SW_come v1 v2 v3 c) (G_Mo_come v1 v2 v3 m) := by
  have h := h.more (Nat.le_refl b)
  have h' := h.more (Nat.le_succ b)
  obtain ⟨w, hw, e1, e2⟩ := h.w
  by_cases hg : 0 ≤ v1 ∧ v1 < m 3 w
  case neg =>
    obtain ⟨r, c', m', x1, x2, x3⟩ := pr_refuse h' (-1) (by omega)
    refine ⟨r, c', m', ?_, ?_, x3⟩
    · unfold G_SW_come
      simp only [e2, Int.toNat_natCast, q_eta, s_gearOf0 hw h.F hg, q_some]
      exact gdT (by omega) (ifF (by simp) x1)
    · unfold G_Mo_come
      simp only [s_noGear hw h.F e1, if_neg hg, q_some, q_eta]
      exact ifF (by decide) x2
  obtain ⟨g, rfl⟩ : ∃ g : Nat, v1 = (g : Int) := ⟨v1.toNat, by omega⟩
  obtain ⟨g40, i120, hj, eK, k0, k10, eL, l0, l8, lt, ln⟩ := h.gr hw hg.2
  have hs := (h.P.2.1 w g 0 hw g40 (by omega)).pos
  rw [Nat.add_zero] at hs
  unfold G_SW_come G_Mo_come GB_SW_come_43 GB_SW_come_81 GB_Mo_come_38 GB_Mo_come_97
  simp only [e2, Int.toNat_natCast, gd1 (show (0 : Int) ≤ (w : Int) ∧ (w : Int) < 3 by omega), q_eta, s_gearOf hw h.F hg.2, s_noGear hw h.F e1, if_pos hg, q_some, show ¬ (40 * w + g + 1 = 0) by omega, ne_eq, not_false_eq_true, if_true, s_beyond, s_g hw e1 g40, gd1 hj, gd1 (show (0 : Int) ≤ ((40 * w + g : Nat) : Int) ∧ ((40 * w + g : Nat) : Int) < 120 by omega), s_cTaker hj, s_mTaker, s_cChute hj, s_mChute, s_cFree hj, eK, p_w1 (x := 8 * ((40 * w + g : Nat) : Int)) (by omega) (by omega), gd1 (show (0 : Int) ≤ 8 * ((40 * w + g : Nat) : Int) ∧ 8 * ((40 * w + g : Nat) : Int) < 960 by omega), show (8 * ((40 * w + g : Nat) : Int)).toNat = 8 * (40 * w + g) by omega]
  by_cases c1 : 1 ≤ v2 ∧ v2 ≤ 999
  case neg =>
    simp only [if_neg c1, show ¬ ((1 : Int) = 0) by decide, not_false_eq_true, if_true]
    by_cases c3 : v2 < 1
    · simp only [if_pos c3]
      exact pr_refuse h' _ (by omega) hE
    · simp only [if_neg c3, if_pos (show 999 < v2 by omega)]
      exact pr_refuse h' _ (by omega) hE
  simp only [if_pos c1, not_true_eq_false, if_false, if_neg (show ¬ v2 < 1 by omega), if_neg (show ¬ 999 < v2 by omega)]
  by_cases c2 : 0 ≤ v3 ∧ v3 ≤ 9
  case neg =>
    simp only [if_neg c2, show ¬ ((1 : Int) = 0) by decide, if_false]
    by_cases c3 : v3 < 0
    · simp only [if_pos c3]
      exact pr_refuse h' _ (by omega) hE
    · simp only [if_neg c3, if_neg (show ¬ v3 ≤ 9 by omega)]
      exact pr_refuse h' _ (by omega) hE
  simp only [if_pos c2, if_true, if_neg (show ¬ v3 < 0 by omega), if_pos c2.2]
  by_cases c4 : m 5 (40 * w + g) < 9
  case neg =>
    simp only [if_neg (show ¬ (0 ≤ m 5 (40 * w + g) ∧ m 5 (40 * w + g) < 9) by omega), if_neg c4, not_true_eq_false, if_false]
    exact pr_fault h' _ _ (by omega) (by omega) (by omega) hE
  simp only [if_pos (show 0 ≤ m 5 (40 * w + g) ∧ m 5 (40 * w + g) < 9 by omega), if_pos c4, show ¬ ((1 : Int) = 0) by decide, not_false_eq_true, if_true]
  by_cases c5 : m 5 (40 * w + g) = 7 ∨ m 5 (40 * w + g) = 8
  · simp only [if_pos c5, show ¬ ((1 : Int) = 0) by decide, not_false_eq_true, if_true]
    exact pr_refuse h' _ (by omega) hE
  simp only [if_neg c5, not_true_eq_false, if_false]
  by_cases c6 : c 2012 (40 * w + g + 1) 0 = 0
  case neg =>
    simp only [if_neg c6, not_true_eq_false, if_false, if_neg (show ¬ (m 22 (8 * (40 * w + g)) ≤ 0) from fun z => by have := hs.1.mpr c6; omega)]
    exact pr_refuse h' _ (by omega) hE
  have c6' : m 22 (8 * (40 * w + g)) ≤ 0 := by
    have := hs.1
    by_cases z : 0 < m 22 (8 * (40 * w + g))
    · exact absurd c6 (this.mp z)
    · omega
  simp only [if_pos c6, if_pos c6', show ¬ ((1 : Int) = 0) by decide, not_false_eq_true, if_true]
  rcases h.come hb hw e1 e2 hg.2 c4 c6 c1 c2 with ⟨x1, x2⟩ | ⟨x1, pl, q, c1', c2', m2, p1, p30, q1, x2, x3, x4, x5, x6, x7, x8, x9, x10, x11⟩
  · rw [x1, x2, q_some, q_some2, if_neg (show ¬ ((0 : Nat) ≠ 0) by simp), if_neg (by decide)]
    exact pr_refuse h' _ (by omega) hE
  · rw [x1, x2, q_some, q_some2, if_pos (show 31 * w + pl ≠ 0 by omega), if_pos rfl, x3, Int.toNat_natCast, gd1 (by omega), x4, q_some, gd1 (show vP (31 * w + pl) from ⟨by omega, by omega⟩), x5, x6, q_some2]
    exact pr_done x7 _ (by rw [x10, x11]; exact hE)
