theorem tv_ne (m : h_M) (a b : Nat → Int) {f : Nat} (h : f ≠ 30) : tv m a b f = m f := by
  unfold tv sm
  rw [if_neg h]
theorem tv_30 (m : h_M) (a b : Nat → Int) : tv m a b 30 = a := by
  unfold tv sm
  rw [if_pos rfl]
theorem tv_eq {m m' : h_M} {a b : Nat → Int} (h : ∀ f, f ≠ 30 → m' f = m f) (h30 : m' 30 = a) : m' = tv m a b := by
  funext f
  by_cases e : f = 30
  · subst e; rw [tv_30, h30]
  · rw [tv_ne _ _ _ e, h f e]
theorem tv_w30 (m : h_M) (a b : Nat → Int) (q : Nat) (t : Int) : wm (tv m a b) 30 q t = tv m (fun i => if i = q then t else a i) b := by
  refine tv_eq (fun f hf => ?_) ?_
  · funext x
    rw [wm_at, if_neg (fun z => hf z.1), tv_ne _ _ _ hf]
  · funext x
    rw [wm_at, tv_30]
    simp
/-- the target of a parcel, written in both -/
theorem ZZ.tg {b : Nat} {c : h_C} {m : h_M} {w : Nat} {F L : Int} (h : ZZ b c m w F L) {pl q : Nat} (p1 : 1 ≤ pl) (p30 : pl ≤ 30) (hq : 1 ≤ q) (ep : c 101 (31 * w + pl) 0 = (q : Int)) (t : Int) (ht : t = -9 ∨ t = -8 ∨ (0 ≤ t ∧ t < 40)) : ZZ b (wc c 104 (31 * w + pl) 0 t) (wm m 30 q t) w F L := by
  obtain ⟨hR, ⟨hw, _⟩, _⟩ := id h
  have hp := hR.po hw p1 p30 hq ep
  have n1 : eC [104] c (wc c 104 (31 * w + pl) 0 t) := (by repeat first | exact eC.rf _ _ | refine eC.wc ?_ (by decide) _ _ _ | refine eC.sr ?_ (by decide) _ _)
  have n2 : eM [30] m (wm m 30 q t) := (by repeat first | exact eM.rf _ _ | refine eM.wm ?_ (by decide) _ _)
  have hP : RP b (wc c 104 (31 * w + pl) 0 t) (wm m 30 q t) := by
    refine RP.one hR.P hw p1 p30 ep hp (fun f hf => n1.of hf rfl) (fun f _ i hi => ?_) (fun f hf => n2.of hf rfl) (fun f _ x hx => ?_) (fun q' k _ _ => by simp [wm_at]) (fun q' k _ _ => by simp [wm_at]) ?_
    · funext l
      rw [wc_at, if_neg (fun z => hi z.2.1)]
    · rw [wm_at, if_neg (fun z => hx z.2)]
    · obtain ⟨_, f1, f2, f3, f4, f5, f6⟩ := hp
      refine ⟨by simpa [wc_at, wm_at] using f1, by simpa [wc_at, wm_at] using f2, ?_, by simpa [wc_at, wm_at] using f4, by simpa [wc_at, wm_at] using f5, by simpa [wc_at, wm_at] using f6⟩
      simp only [wc_at, wm_at]
      simpa using ht
  exact h.ofE (Nat.le_refl _) (RR.gen [104] [30] hR n1 n2 (Or.inl ⟨rfl, rfl⟩) (Or.inl ⟨rfl, rfl⟩) (Or.inl ⟨rfl, rfl⟩) (Or.inl ⟨rfl, rfl⟩) (Or.inr hP) (Or.inl ⟨rfl, rfl⟩) (Or.inl ⟨rfl, rfl⟩) (Or.inl ⟨rfl, rfl⟩) (Or.inl ⟨rfl, rfl⟩) (Or.inl ⟨rfl, rfl⟩) (Or.inl ⟨rfl, rfl⟩) (Or.inl ⟨rfl, rfl⟩)) n1 n2 rfl rfl
theorem ZZ.sc {b : Nat} {c : h_C} {m : h_M} {w : Nat} {F L : Int} (h : ZZ b c m w F L) {pl q : Nat} (p1 : 1 ≤ pl) (p30 : pl ≤ 30) (hq : 1 ≤ q) (ep : c 101 (31 * w + pl) 0 = (q : Int)) : ZZ b (wc c 107 (31 * w + pl) 0 1) (wm m 35 q 1) w F L := by
  obtain ⟨hR, ⟨hw, _⟩, _⟩ := id h
  have hp := hR.po hw p1 p30 hq ep
  have n1 : eC [107] c (wc c 107 (31 * w + pl) 0 1) := (by repeat first | exact eC.rf _ _ | refine eC.wc ?_ (by decide) _ _ _ | refine eC.sr ?_ (by decide) _ _)
  have n2 : eM [35] m (wm m 35 q 1) := (by repeat first | exact eM.rf _ _ | refine eM.wm ?_ (by decide) _ _)
  have hP : RP b (wc c 107 (31 * w + pl) 0 1) (wm m 35 q 1) := by
    refine RP.one hR.P hw p1 p30 ep hp (fun f hf => n1.of hf rfl) (fun f _ i hi => ?_) (fun f hf => n2.of hf rfl) (fun f _ x hx => ?_) (fun q' k _ _ => by simp [wm_at]) (fun q' k _ _ => by simp [wm_at]) ?_
    · funext l
      rw [wc_at, if_neg (fun z => hi z.2.1)]
    · rw [wm_at, if_neg (fun z => hx z.2)]
    · obtain ⟨_, f1, f2, f3, f4, f5, f6⟩ := hp
      refine ⟨by simpa [wc_at, wm_at] using f1, by simpa [wc_at, wm_at] using f2, by simpa [wc_at, wm_at] using f3, ?_, by simpa [wc_at, wm_at] using f5, by simpa [wc_at, wm_at] using f6⟩
      simp [wc_at, wm_at]
  exact h.ofE (Nat.le_refl _) (RR.gen [107] [35] hR n1 n2 (Or.inl ⟨rfl, rfl⟩) (Or.inl ⟨rfl, rfl⟩) (Or.inl ⟨rfl, rfl⟩) (Or.inl ⟨rfl, rfl⟩) (Or.inr hP) (Or.inl ⟨rfl, rfl⟩) (Or.inl ⟨rfl, rfl⟩) (Or.inl ⟨rfl, rfl⟩) (Or.inl ⟨rfl, rfl⟩) (Or.inl ⟨rfl, rfl⟩) (Or.inl ⟨rfl, rfl⟩) (Or.inl ⟨rfl, rfl⟩)) n1 n2 rfl rfl
/-- a rule was used, in both -/
theorem ZZ.used {b : Nat} {c : h_C} {m : h_M} {w : Nat} {F L : Int} (h : ZZ b c m w F L) {r : Nat} (x : Int) (hr : r < 12) : ZZ b (wc c 2003 w r x) (wm m 51 (12 * w + r) x) w F L := by
  obtain ⟨hR, ⟨hw, _⟩, _⟩ := id h
  have n1 : eC [2003] c (wc c 2003 w r x) := (by repeat first | exact eC.rf _ _ | refine eC.wc ?_ (by decide) _ _ _ | refine eC.sr ?_ (by decide) _ _)
  have n2 : eM [51] m (wm m 51 (12 * w + r) x) := (by repeat first | exact eM.rf _ _ | refine eM.wm ?_ (by decide) _ _)
  have hU : RU (wc c 2003 w r x) (wm m 51 (12 * w + r) x) := by
    intro w' hw'
    obtain ⟨u1, u2, u3⟩ := hR.U w' hw'
    have tf : ∀ r0 n, tW (wm m 51 (12 * w + r) x) r0 n = tW m r0 n := tW_fr (fun f hf => n2.of hf rfl)
    refine ⟨?_, fun r' hr' hl => ?_, ?_⟩
    · rw [n1 500 (by decide), n2 48 (by decide)]; exact u1
    · rw [n2 48 (by decide)] at hl
      obtain ⟨v1, v2, v3, v4⟩ := u2 r' hr' hl
      refine ⟨?_, ?_, ?_, fun t ht hl' => ?_⟩
      · rw [n1 2020 (by decide), n2 49 (by decide)]; exact v1
      · rw [n1 2021 (by decide), n2 50 (by decide)]; exact v2
      · simp only [wc_at, wm_at]
        by_cases e : w' = w ∧ r' = r
        · obtain ⟨rfl, rfl⟩ := e
          simp
        · rw [if_neg (by omega), if_neg (by omega)]; exact v3
      · rw [n2 50 (by decide)] at hl'
        rw [n1 2022 (by decide), n1 2023 (by decide), n1 2024 (by decide), n1 2025 (by decide), n2 52 (by decide), n2 53 (by decide), n2 54 (by decide), n2 55 (by decide)]
        exact v4 t ht hl'
    · rw [tf, n1 508 (by decide), n1 2026 (by decide), n2 48 (by decide)]; exact u3
  exact h.ofE (Nat.le_refl _) (RR.gen [2003] [51] hR n1 n2 (Or.inl ⟨rfl, rfl⟩) (Or.inl ⟨rfl, rfl⟩) (Or.inl ⟨rfl, rfl⟩) (Or.inl ⟨rfl, rfl⟩) (Or.inl ⟨rfl, rfl⟩) (Or.inl ⟨rfl, rfl⟩) (Or.inl ⟨rfl, rfl⟩) (Or.inr hU) (Or.inl ⟨rfl, rfl⟩) (Or.inl ⟨rfl, rfl⟩) (Or.inl ⟨rfl, rfl⟩) (Or.inl ⟨rfl, rfl⟩)) n1 n2 rfl rfl
def rC : List Nat := [2005, 403, 804, 12, 2003]
def rM : List Nat := [173, 180, 43, 42, 102, 172, 20, 51]
theorem ZZ.rules {w : Nat} {F L : Int} {g q : Nat} (hq : q < 2001) (A : Nat → Int) (hA : A q = -9) : ∀ (d r fu b : Nat) (c : h_C) (m : h_M), ZZ b c m w F L → b + d < 2000000000 → VV c m → (g : Int) < m 3 w → m 171 0 = (g : Int) → ((r + d : Nat) : Int) = m 48 w → d < fu → ∃ t c' m', GO_Step_targetByRules_2 fu (g : Int) (r : Int) c = some (t, c') ∧ GO_Mo_scans_84 fu (q : Int) (r : Int) (tv m A A) = some (0, tv m' (fun i => if i = q then t else A i) A) ∧ (t = -9 ∨ (0 ≤ t ∧ t < 40)) ∧ ZZ (b + d) c' m' w F L ∧ eC rC c c' ∧ eM rM m m' := by
  intro d
  induction d with
  | zero =>
    intro r fu b c m h hb hV hg ha hd hf
    obtain ⟨fu, rfl⟩ : ∃ g, fu = g + 1 := ⟨fu - 1, by omega⟩
    obtain ⟨hR, ⟨hw, e1, e2, e3, e4, e5⟩, _⟩ := id h
    obtain ⟨⟨u1, u2, u3⟩, uR, _⟩ := hR.U w hw
    refine ⟨-9, c, m, ?_, ?_, Or.inl rfl, h, eC.rf _ _, eM.rf _ _⟩
    · show GL_Step_targetByRules_2 _ _ _ c = _
      unfold GL_Step_targetByRules_2
      rw [e4, gd1 (by omega), Int.toNat_natCast, u1, if_pos (by omega)]
    · show GL_Mo_scans_84 _ _ _ (tv m A A) = _
      unfold GL_Mo_scans_84
      rw [tv_ne m A A (f := 100) (by decide), tv_ne m A A (f := 48) (by decide), e1, gd1 (by omega), Int.toNat_natCast, if_pos (by omega), show (fun i => if i = q then (-9 : Int) else A i) = A from funext fun i => by
        by_cases e : i = q
        · rw [if_pos e, e, hA]
        · rw [if_neg e]]
  | succ d ih =>
    intro r fu b c m h hb hV hg ha hd hf
    obtain ⟨fu, rfl⟩ : ∃ g, fu = g + 1 := ⟨fu - 1, by omega⟩
    obtain ⟨hR, ⟨hw, e1, e2, e3, e4, e5⟩, _⟩ := id h
    obtain ⟨⟨u1, u2, u3⟩, uR, _⟩ := hR.U w hw
    have hr : (r : Int) < m 48 w := by omega
    have r12 : r < 12 := by omega
    have bp : p_w ((r : Int) + 1) = ((r + 1 : Nat) : Int) := p_w1 (by omega) (by omega)
    have kn : ¬ m 48 w ≤ (r : Int) := by omega
    have w3 : (0 : Int) ≤ (w : Int) ∧ (w : Int) < 3 := by omega
    have r3 : (0 : Int) ≤ (r : Int) ∧ (r : Int) < 12 := by omega
    have hd1 : ((r + 1 + d : Nat) : Int) = m 48 w := by omega
    obtain ⟨⟨t20, t0, t40⟩, _, t3, _⟩ := uR r r12 hr
    obtain ⟨v, x1, x2⟩ := s_holds hR hw e1 e4 e5 hV hr
    have C1 : ∀ X, (if 0 ≤ v then (if v ≠ 1 then GO_Step_targetByRules_2 fu (g : Int) ((r + 1 : Nat) : Int) c else some (m 49 (12 * w + r), wc c 2003 w r (p_w (m 51 (12 * w + r) + 1)))) else q_bv (G_Step_addFinding (g : Int) 3 v (r : Int) c) fun c21 => GO_Step_targetByRules_2 fu (g : Int) ((r + 1 : Nat) : Int) c21) = X → GO_Step_targetByRules_2 (fu + 1) (g : Int) (r : Int) c = X := by
      intro X hX
      show GL_Step_targetByRules_2 _ _ _ c = _
      unfold GL_Step_targetByRules_2 GB_Step_targetByRules_68
      have s1 : (wc c 2003 w r (p_w (m 51 (12 * w + r) + 1))) 5002 0 0 = (w : Int) := by rw [wc_at, if_neg (by omega), e4]
      have s2 : (wc c 2003 w r (p_w (m 51 (12 * w + r) + 1))) 2020 w r = m 49 (12 * w + r) := by rw [wc_at, if_neg (by omega), t20]
      rw [e4, gd1 w3, Int.toNat_natCast, u1, if_neg kn, x1, q_some, bp, e5, Int.toNat_natCast, gd1 w3, gd1 r3, Int.toNat_natCast, t3, bi1, bi1, s1, gd1 w3, Int.toNat_natCast, s2]
      simp only [bi1]
      exact hX
    have M1 : ∀ (rr : Int) (m1 : h_M), G_Mo_holds (r : Int) m = some (rr, m1) → m1 100 = m 100 → ∀ X, (if rr = 0 then GO_Mo_scans_84 fu (q : Int) ((r + 1 : Nat) : Int) (tv m1 A A) else some (0, wm (wm (tv m1 A A) 30 q (m1 49 (12 * w + r))) 51 (12 * w + r) (p_w (m1 51 (12 * w + r) + 1)))) = X → GO_Mo_scans_84 (fu + 1) (q : Int) (r : Int) (tv m A A) = X := by
      intro rr m1 hh h100 X hX
      show GL_Mo_scans_84 _ _ _ (tv m A A) = _
      unfold GL_Mo_scans_84
      have s0 : (tv m1 A A) 100 0 = (w : Int) := by rw [tv_ne _ _ _ (by decide), h100, e1]
      have s1 : (wm (tv m1 A A) 30 q (m1 49 (12 * w + r))) 100 0 = (w : Int) := by rw [wm_at, if_neg (by omega), s0]
      have s2 : (wm (tv m1 A A) 30 q (m1 49 (12 * w + r))) 51 (12 * w + r) = m1 51 (12 * w + r) := by rw [wm_at, if_neg (by omega), tv_ne _ _ _ (by decide)]
      have i1 : p_w (p_w (12 * (w : Int)) + (r : Int)) = ((12 * w + r : Nat) : Int) := by rw [p_w1 (x := 12 * (w : Int)) (by omega) (by omega), p_w1 (by omega) (by omega)]; omega
      rw [tv_ne m A A (f := 100) (by decide), tv_ne m A A (f := 48) (by decide), e1, gd1 w3, Int.toNat_natCast, if_neg kn, k_Mo_holds A A _ _ _ hh, q_some2, bp, bi1, s0, i1, gd1 (show (0 : Int) ≤ ((12 * w + r : Nat) : Int) ∧ ((12 * w + r : Nat) : Int) < 36 by omega), gd1 (show (0 : Int) ≤ (q : Int) ∧ (q : Int) < 2001 by omega), Int.toNat_natCast, Int.toNat_natCast, tv_ne m1 A A (f := 49) (by decide), bi1, s1, i1, gd1 (show (0 : Int) ≤ ((12 * w + r : Nat) : Int) ∧ ((12 * w + r : Nat) : Int) < 36 by omega), Int.toNat_natCast, s2, bi1]
      exact hX
    rcases x2 with ⟨rfl, m1, y1, y2⟩ | ⟨rfl, m1, y1, y2⟩ | ⟨f, m1, hf6, rfl, y2, y1⟩
    · have h1 : ZZ b c m1 w F L := h.scr (lc := []) (lm := [173, 180]) (eC.rf _ _) y2 rfl rfl rfl rfl
      have hu := h1.used (r := r) (p_w (m 51 (12 * w + r) + 1)) r12
      refine ⟨m 49 (12 * w + r), _, _, C1 _ (by rw [if_pos (by decide), if_neg (by decide)]), M1 _ _ y1 (y2 100 (by decide)) _ ?_, Or.inr ⟨t0, t40⟩, hu.more (by omega), eC.up (l := [2003]) (by repeat first | exact eC.rf _ _ | refine eC.wc ?_ (by decide) _ _ _ | refine eC.sr ?_ (by decide) _ _) (by decide), (y2.up (by decide)).tr (eM.up (l := [51]) (by repeat first | exact eM.rf _ _ | refine eM.wm ?_ (by decide) _ _) (by decide))⟩
      rw [if_neg (by decide), tv_w30, tv_wm _ _ _ _ _ _ (by decide), y2 49 (by decide), y2 51 (by decide)]
    · have h1 : ZZ b c m1 w F L := h.scr (lc := []) (lm := [173, 180]) (eC.rf _ _) y2 rfl rfl rfl rfl
      obtain ⟨t, c', m', z1, z2, z3, z4, z5, z6⟩ := ih (r + 1) fu b c m1 h1 (by omega) (hV.of (fun _ _ => rfl) (fun _ hf => y2.of hf rfl)) (by rw [y2 3 (by decide)]; exact hg) (by rw [y2 171 (by decide)]; exact ha) (by rw [y2 48 (by decide)]; exact hd1) (by omega)
      refine ⟨t, c', m', C1 _ ?_, M1 _ _ y1 (y2 100 (by decide)) _ ?_, z3, z4.more (by omega), z5, (y2.up (by decide)).tr z6⟩
      · rw [if_pos (by decide), if_pos (by decide)]; exact z1
      · rw [if_pos rfl]; exact z2
    · have h1 : ZZ b c m1 w F L := h.scr (lc := []) (lm := [173, 180]) (eC.rf _ _) y2 rfl rfl rfl rfl
      obtain ⟨c2, m2, a1, a2, a3, a4, a5, _⟩ := h1.fi (by omega) (g : Int) 3 f (r : Int) hf6 (Or.inr ⟨by omega, by rw [y2 3 (by decide)]; exact hg, by rw [y2 171 (by decide)]; exact ha⟩)
      rw [if_neg (by omega)] at a1
      rw [a2, q_some] at y1
      have y3 : eM rM m m2 := (y2.up (by decide)).tr (a5.up (by decide))
      obtain ⟨t, c', m', z1, z2, z3, z4, z5, z6⟩ := ih (r + 1) fu (b + 1) c2 m2 a3 (by omega) (hV.of (fun _ hf => a4.of hf rfl) (fun _ hf => y3.of hf rfl)) (by rw [y3 3 (by decide)]; exact hg) (by rw [y3 171 (by decide)]; exact ha) (by rw [y3 48 (by decide)]; exact hd1) (by omega)
      refine ⟨t, c', m', C1 _ ?_, M1 _ _ y1 (y3 100 (by decide)) _ ?_, z3, z4.more (by omega), (a4.up (by decide)).tr z5, y3.tr z6⟩
      · rw [if_neg (by omega), a1, q_some]; exact z1
      · rw [if_pos rfl]; exact z2
