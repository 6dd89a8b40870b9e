/-! ===== a step ===== -/
theorem s_flags {w : Nat} (hw : w < 3) (v3 : Int) : ∀ (d pl fu : Nat) (c : h_C), pl + d = 31 → 1 ≤ pl → d < fu → c 5003 0 0 = (w : Int) → ∃ c', GO_Step_run_67 fu v3 (pl : Int) c = GO_Step_run_97 3000 v3 0 c' ∧ eC [108] c c' ∧ (∀ p', pl ≤ p' → p' ≤ 30 → c' 108 (31 * w + p') 0 = 0) ∧ (∀ p', p' < pl → c' 108 (31 * w + p') 0 = c 108 (31 * w + p') 0) := by
  intro d
  induction d with
  | zero =>
    intro pl fu c hd h1 hf e5
    obtain ⟨fu, rfl⟩ : ∃ g, fu = g + 1 := ⟨fu - 1, by omega⟩
    refine ⟨c, ?_, eC.rf _ _, fun p' z1 z2 => by omega, fun _ _ => rfl⟩
    show GL_Step_run_67 _ _ _ c = _
    unfold GL_Step_run_67
    rw [if_pos (by omega)]
  | succ d ih =>
    intro pl fu c hd h1 hf e5
    obtain ⟨fu, rfl⟩ : ∃ g, fu = g + 1 := ⟨fu - 1, by omega⟩
    obtain ⟨c', y1, y2, y3, y4⟩ := ih (pl + 1) fu (wc c 108 (31 * w + pl) 0 0) (by omega) (by omega) (by omega) (by rw [wc_ne (by decide)]; exact e5)
    refine ⟨c', ?_, eC.tr (by repeat first | exact eC.rf _ _ | refine eC.wc ?_ (by decide) _ _ _ | refine eC.sr ?_ (by decide) _ _) y2, fun p' z1 z2 => ?_, fun p' z1 => ?_⟩
    · rw [← y1]
      show GL_Step_run_67 _ _ _ c = _
      unfold GL_Step_run_67
      rw [if_neg (by omega), e5, gd1 (by omega), gd1 (by omega), gd1 (by omega), Int.toNat_natCast, Int.toNat_natCast, p_w1 (by omega) (by omega)]
      rfl
    · by_cases e : p' = pl
      · subst e
        rw [y4 p' (by omega)]
        simp [wc_at]
      · exact y3 p' (by omega) z2
    · rw [y4 p' (by omega), wc_at, if_neg (by omega)]
theorem n_flags {w : Nat} (hw : w < 3) {n : Nat} (hn : n ≤ 2000) : ∀ (d q fu : Nat) (m : h_M), q + d = n + 1 → 1 ≤ q → d < fu → m 100 0 = (w : Int) → m 123 0 = (n : Int) → ∃ m', GO_Mo_steps_29 fu (q : Int) m = (q_bv (G_Mo_doPlans m') fun m4 => q_bv (G_Mo_choose m4) fun m7 => GO_Mo_steps_73 3000 0 m7) ∧ eM [36] m m' ∧ (∀ q', q ≤ q' → q' ≤ n → m 24 q' = (w : Int) → m' 36 q' = 0) ∧ (∀ q', q' < q → m' 36 q' = m 36 q') := by
  intro d
  induction d with
  | zero =>
    intro q fu m hd h1 hf e1 e2
    obtain ⟨fu, rfl⟩ : ∃ g, fu = g + 1 := ⟨fu - 1, by omega⟩
    refine ⟨m, ?_, eM.rf _ _, fun q' z1 z2 => by omega, fun _ _ => rfl⟩
    show GL_Mo_steps_29 _ _ m = _
    unfold GL_Mo_steps_29
    rw [if_pos (by omega)]
  | succ d ih =>
    intro q fu m hd h1 hf e1 e2
    obtain ⟨fu, rfl⟩ : ∃ g, fu = g + 1 := ⟨fu - 1, by omega⟩
    have nM : ∀ m2 : h_M, GB_Mo_steps_57 (GO_Mo_steps_29 fu) (q : Int) m2 = GO_Mo_steps_29 fu ((q + 1 : Nat) : Int) m2 := fun m2 => by
      unfold GB_Mo_steps_57
      rw [p_w1 (by omega) (by omega), bi1]
      rfl
    have hM : ∀ X, (if m 24 q ≠ (w : Int) then GO_Mo_steps_29 fu ((q + 1 : Nat) : Int) m else GO_Mo_steps_29 fu ((q + 1 : Nat) : Int) (wm m 36 q 0)) = X → GO_Mo_steps_29 (fu + 1) (q : Int) m = X := fun X hX => by
      show GL_Mo_steps_29 _ _ m = _
      unfold GL_Mo_steps_29
      rw [if_neg (by omega), gd1 (by omega), Int.toNat_natCast, e1, bi1]
      simp only [nM]
      exact hX
    by_cases h24 : m 24 q = (w : Int)
    · obtain ⟨m', y1, y2, y3, y4⟩ := ih (q + 1) fu (wm m 36 q 0) (by omega) (by omega) (by omega) (by rw [wm_at, if_neg (by omega)]; exact e1) (by rw [wm_at, if_neg (by omega)]; exact e2)
      refine ⟨m', hM _ (by rw [if_neg (by omega)]; exact y1), eM.tr (by repeat first | exact eM.rf _ _ | refine eM.wm ?_ (by decide) _ _) y2, fun q' z1 z2 z3 => ?_, fun q' z1 => ?_⟩
      · by_cases e : q' = q
        · subst e
          rw [y4 q' (by omega)]
          simp [wm_at]
        · exact y3 q' (by omega) z2 (by rw [wm_at, if_neg (by omega)]; exact z3)
      · rw [y4 q' (by omega), wm_at, if_neg (by omega)]
    · obtain ⟨m', y1, y2, y3, y4⟩ := ih (q + 1) fu m (by omega) (by omega) (by omega) e1 e2
      refine ⟨m', hM _ (by rw [if_pos h24]; exact y1), y2, fun q' z1 z2 z3 => ?_, fun q' z1 => y4 q' (by omega)⟩
      by_cases e : q' = q
      · subst e
        exact absurd z3 h24
      · exact y3 q' (by omega) z2 z3
/-- one run of a step -/
theorem RR.run {b : Nat} (hb : b < 700000000) {c : h_C} {m : h_M} (h : RR b c m) (hE : c 607 0 0 = m 102 0) {w : Nat} (hw : w < 3) (e1 : m 100 0 = (w : Int)) (e2 : c 5000 0 0 = (w : Int)) : ∃ r c' m', G_Step_run w c = some (r, c') ∧ G_Mo_steps m = some m' ∧ RR (b + 777) (wc c' 607 0 0 (p_w (c 607 0 0 + r))) m' ∧ (wc c' 607 0 0 (p_w (c 607 0 0 + r))) 607 0 0 = m' 102 0 ∧ m' 100 0 = (w : Int) ∧ (wc c' 607 0 0 (p_w (c 607 0 0 + r))) 5000 0 0 = (w : Int) := by
  have w3 : (0 : Int) ≤ (w : Int) ∧ (w : Int) < 3 := by omega
  have h102 := h.A.2.2.2.2.1
  -- the head
  generalize hc1 : wc (wc (wc c 5002 0 0 ((w : Nat) : Int)) 5003 0 0 ((w : Nat) : Int)) 5001 0 0 1 = c1
  have n1 : eC [5001, 5002, 5003] c c1 := by rw [← hc1]; exact (by repeat first | exact eC.rf _ _ | refine eC.wc ?_ (by decide) _ _ _ | refine eC.sr ?_ (by decide) _ _)
  have p1 : c1 5002 0 0 = (w : Int) ∧ c1 5003 0 0 = (w : Int) ∧ c1 5001 0 0 = 1 := by rw [← hc1]; exact ⟨by simp [wc_at], by simp [wc_at], by simp [wc_at]⟩
  have hR1 : RR b c1 m := h.scr [5001, 5002, 5003] [] n1 (eM.rf _ _) rfl rfl
  obtain ⟨c2, m2, a1, a2, a3, a4, a5⟩ := hR1.keep hw e1
  obtain ⟨t1, t2, t3, t4⟩ := a3.S w hw
  obtain ⟨u1, u2, u3, u4⟩ := a3.T w hw
  generalize hc3 : wc (wc c2 300 w 0 (m2 4 w + 1)) 211 w 0 0 = c3
  generalize hm3 : wm (wm m2 4 w (m2 4 w + 1)) 44 w 0 = m3
  have n3 : eC [300, 211] c2 c3 := by rw [← hc3]; exact (by repeat first | exact eC.rf _ _ | refine eC.wc ?_ (by decide) _ _ _ | refine eC.sr ?_ (by decide) _ _)
  have o3 : eM [4, 44] m2 m3 := by rw [← hm3]; exact (by repeat first | exact eM.rf _ _ | refine eM.wm ?_ (by decide) _ _)
  have hR3 : RR (b + 1) c3 m3 := by
    have hS : RS (b + 1) c3 m3 := fun w' hw' => by
      obtain ⟨y1, y2, y3, y4⟩ := a3.S w' hw'
      rw [n3 301 (by decide), o3 39 (by decide), ← hc3, ← hm3]
      by_cases e : w' = w
      · subst e
        refine ⟨by simp [wc_at, wm_at], by simp [wm_at]; omega, by simp [wm_at]; omega, y4⟩
      · refine ⟨by simpa [wc_at, wm_at, e] using y1, by simpa [wm_at, e] using y2, by simp [wm_at, e]; omega, y4⟩
    have hT : RT (b + 1) c3 m3 := fun w' hw' => by
      obtain ⟨y1, y2, y3, y4⟩ := a3.T w' hw'
      rw [n3 2037 (by decide), o3 45 (by decide), ← hc3, ← hm3]
      by_cases e : w' = w
      · subst e
        refine ⟨by simp [wc_at, wm_at], by simp [wm_at], by simp [wm_at]; omega, y4⟩
      · refine ⟨by simpa [wc_at, wm_at, e] using y1, by simpa [wm_at, e] using y2, by simp [wm_at, e]; omega, y4⟩
    exact (RR.gen [300, 211] [4, 44] (a3.more (Nat.le_succ b)) n3 o3 (Or.inl ⟨rfl, rfl⟩) (Or.inl ⟨rfl, rfl⟩) (Or.inl ⟨rfl, rfl⟩) (Or.inl ⟨rfl, rfl⟩) (Or.inl ⟨rfl, rfl⟩) (Or.inl ⟨rfl, rfl⟩) (Or.inr hT) (Or.inl ⟨rfl, rfl⟩) (Or.inl ⟨rfl, rfl⟩) (Or.inl ⟨rfl, rfl⟩) (Or.inr hS) (Or.inl ⟨rfl, rfl⟩))
  have q2 : c2 5002 0 0 = (w : Int) ∧ c2 5003 0 0 = (w : Int) := by rw [a4 5002 (by decide), a4 5003 (by decide)]; exact ⟨p1.1, p1.2.1⟩
  have q3 : c3 5003 0 0 = (w : Int) := by rw [n3 5003 (by decide)]; exact q2.2
  obtain ⟨nn, hnn⟩ : ∃ nn : Nat, m 123 0 = (nn : Int) := ⟨(m 123 0).toNat, by have := h.N.2.1; omega⟩
  have hn2 := h.N.2.2.1
  have r1 : m3 100 0 = (w : Int) := by rw [o3 100 (by decide), a5 100 (by decide)]; exact e1
  have r2 : m3 123 0 = (nn : Int) := by rw [o3 123 (by decide), a5 123 (by decide)]; exact hnn
  obtain ⟨c4, b1, b2, b3, b4⟩ := s_flags hw (m 42 w) 30 1 3000 c3 (by omega) (by omega) (by omega) q3
  obtain ⟨m4, d1, d2, d3, d4⟩ := n_flags hw (n := nn) (by omega) nn 1 3000 m3 (by omega) (by omega) (by omega) r1 r2
  generalize hm5 : wm m4 171 0 (-1) = m5
  have o5 : eM [171] m4 m5 := by rw [← hm5]; exact (by repeat first | exact eM.rf _ _ | refine eM.wm ?_ (by decide) _ _)
  have o35 : eM [36, 171] m3 m5 := (d2.up (by decide)).tr (o5.up (by decide))
  have hR5 : RR (b + 1) c4 m5 := hR3.scr [108] [36, 171] b2 o35 rfl rfl
  have n14 : eC [303, 2007, 2013, 2016, 2004, 2006, 212, 213, 300, 211, 108] c1 c4 := ((a4.up (by decide)).tr (n3.up (by decide))).tr (b2.up (by decide))
  have o15 : eM [83, 184, 185, 81, 82, 4, 44, 36, 171] m m5 := ((a5.up (by decide)).tr (o3.up (by decide))).tr (o35.up (by decide))
  have hZ : ZZ (b + 1) c4 m5 w (c 607 0 0) (m 42 w) := by
    refine ⟨hR5, ⟨hw, by rw [o15 100 (by decide)]; exact e1, by rw [n14 5000 (by decide), n1 5000 (by decide)]; exact e2, by rw [n14 5001 (by decide)]; exact p1.2.2, by rw [n14 5002 (by decide)]; exact p1.1, by rw [n14 5003 (by decide)]; exact p1.2.1⟩, ?_, Or.inl (by rw [← hm5]; simp [wm_at]), by rw [n14 607 (by decide), n1 607 (by decide)], ?_⟩
    · intro pl q z1 z2 z3 z4
      rcases hR5.P.2.2.1 w pl hw z1 z2 with z | ⟨q', y1, y2⟩
      · omega
      · have : q' = q := by omega
        subst this
        obtain ⟨⟨⟨v1, v2, v3, v4⟩, _⟩, _⟩ := y2
        have : m5 36 q' = 0 := by
          rw [o5 36 (by decide)]
          rw [o35 24 (by decide)] at v3
          rw [o15 123 (by decide)] at v2
          exact d3 q' z3 (by omega) v3
        rw [this, b3 pl z1 z2]
        exact ⟨rfl, Or.inl rfl⟩
    · rw [o15 102 (by decide), o15 42 (by decide), Int.sub_self, Int.add_zero, hE, p_w1 (by omega) (by omega)]
  obtain ⟨g1, g2, g3, _⟩ := hR5.Q w hw
  obtain ⟨np, hnp⟩ : ∃ np : Nat, m5 56 w = (np : Int) := ⟨(m5 56 w).toNat, by omega⟩
  obtain ⟨c6, m6, i1, i2, i3, i4, i5⟩ := ZZ.plans (m 42 w) np 0 3000 3000 (b + 1) c4 m5 hZ (by rw [← hm5]; simp [wm_at]) (by omega) (by rw [hnp]; congr 1; omega) (by omega) (by omega)
  obtain ⟨c7, m7, j1, j2, j3, j4, j5, j6⟩ := i3.choose
  have f3 := (j3.1.F.1 w).2
  obtain ⟨ng, hng⟩ : ∃ ng : Nat, m7 3 w = (ng : Int) := ⟨(m7 3 w).toNat, by omega⟩
  obtain ⟨c8, m8, k1, k2, k3, k4, k5⟩ := ZZ.acts (m 42 w) ng 0 3000 (b + 1 + np) c7 m7 j3 j4 (by omega) (by rw [hng]; congr 1; omega) (by omega)
  obtain ⟨l1, ⟨_, l2, l3, _⟩, _, _, l5, l6⟩ := id k3
  have hR8 : RR (b + 777) c8 m8 := l1.more (by omega)
  have hRun : G_Step_run w c = some (p_w (m8 42 w - m 42 w), c8) := by
    unfold G_Step_run
    rw [bi1, gd1 hw, bi1, hc1, bi1, p1.2.1, gd1 w3, Int.toNat_natCast, n1 403 (by decide), ((h.L w hw).1.2.2.1), bi1, p1.1, gd1 w3, p1.2.2, gd1 rfl, Int.toNat_natCast, a1, q_some, q2.2, gd1 w3, Int.toNat_natCast, t1, p_w1 (by omega) (by omega), bi1, show (wc c2 300 w 0 (m2 4 w + 1)) 5002 0 0 = (w : Int) by rw [wc_ne (by decide)]; exact q2.1, gd1 w3, Int.toNat_natCast, hc3, bi1]
    have b1' : GO_Step_run_67 3000 (m 42 w) 1 c3 = GO_Step_run_97 3000 (m 42 w) 0 c4 := b1
    have i1' : GO_Step_run_97 3000 (m 42 w) 0 c4 = (q_bv (G_Step_letMergesChoose c6) fun c6 => GO_Step_run_128 3000 (m 42 w) 0 c6) := i1
    rw [b1', i1', j1, q_some]
    exact k1
  have hSteps : G_Mo_steps m = some m8 := by
    unfold G_Mo_steps
    have r0 : m2 100 0 = (w : Int) := by rw [a5 100 (by decide)]; exact e1
    rw [a2, q_some, r0, gd1 w3, Int.toNat_natCast, p_w1 (by omega) (by omega), bi1, show (wm m2 4 w (m2 4 w + 1)) 100 0 = (w : Int) by simp [wm_at, r0], gd1 w3, Int.toNat_natCast, hm3, bi1]
    have d1' : GO_Mo_steps_29 3000 1 m3 = (q_bv (G_Mo_doPlans m4) fun m4 => q_bv (G_Mo_choose m4) fun m7 => GO_Mo_steps_73 3000 0 m7) := d1
    have i2' : GO_Mo_doPlans_7 3000 0 m5 = some m6 := i2
    rw [d1']
    unfold G_Mo_doPlans
    rw [hm5, bi1, i2', q_some, j2, q_some]
    exact k2
  have hE8 : p_w (c 607 0 0 + p_w (m8 42 w - m 42 w)) = m8 102 0 := by
    rw [l6, Int.add_comm, p_wadd, Int.add_comm]
  generalize hc9 : wc c8 607 0 0 (p_w (c 607 0 0 + p_w (m8 42 w - m 42 w))) = c9
  have n9 : eC [607] c8 c9 := by rw [← hc9]; exact (by repeat first | exact eC.rf _ _ | refine eC.wc ?_ (by decide) _ _ _ | refine eC.sr ?_ (by decide) _ _)
  have hR9 : RR (b + 777) c9 m8 := hR8.scr [607] [] n9 (eM.rf _ _) rfl rfl
  refine ⟨_, c8, m8, hRun, hSteps, by rw [hc9]; exact hR9, by rw [← hE8]; simp [wc_at], l2, by rw [wc_ne (by decide)]; exact l3⟩
theorem pr_step {b : Nat} (hb : b < 700000000) {c : h_C} {m : h_M} (h : RR b c m) (hE : c 607 0 0 = m 102 0) : PR (b + 777) (G_SW_step c) (G_Mo_step m) := by
  obtain ⟨w, hw, e1, e2⟩ := h.w
  have w3 : (0 : Int) ≤ (w : Int) ∧ (w : Int) < 3 := by omega
  by_cases h5 : c 607 0 0 < 5000
  case neg =>
    obtain ⟨r, c', m', x1, x2, x3⟩ := pr_refuse (h.more (show b ≤ b + 777 by omega)) (-4) (by omega)
    refine ⟨r, c', m', ?_, ?_, x3⟩
    · unfold G_SW_step
      rw [if_neg h5, q_eta]
      exact x1
    · unfold G_Mo_step G_Mo_isFull
      rw [if_neg (by omega), q_some, if_neg (by decide), q_eta]
      exact x2
  obtain ⟨r0, c8, m8, a1, a2, a3, a4, a5, a6⟩ := h.run hb hE hw e1 e2
  generalize hc9 : wc c8 607 0 0 (p_w (c 607 0 0 + r0)) = c9 at *
  obtain ⟨s1, s2, s3, s4⟩ := a3.S w hw
  obtain ⟨r, c', m', x1, x2, x3⟩ := pr_done a3 (m8 4 w) a4
  refine ⟨r, c', m', ?_, ?_, x3⟩
  · unfold G_SW_step
    rw [if_pos h5, e2, gd1 w3, Int.toNat_natCast, a1, q_some2, hc9, bi1, a6, gd1 w3, Int.toNat_natCast, s1, q_eta]
    exact x1
  · unfold G_Mo_step G_Mo_isFull
    rw [if_pos (by omega), q_some, if_pos rfl, a2, q_some, a5, gd1 w3, Int.toNat_natCast, q_eta]
    exact x2
