def CH (c : h_C) (m : h_M) (w : Nat) : Prop := ∀ g : Nat, (g : Int) < m 3 w → c 19 (40 * w + g + 1) 0 = m 74 g
theorem y_zero : ∀ t : Fin 40, p_and6 (p_ushr6 0 (t.val : Int)) 1 = 0 := by decide
theorem s_aims {j : Nat} (hj : vG j) (s t : Int) (hs : 0 ≤ s ∧ s < 3) (c : h_C) : G_Gear_aims j s t c = some (if 0 ≤ t ∧ p_cmp (p_and6 (p_ushr6 (c 2011 j s.toNat) t) 1) 1 = 0 then 1 else 0) := by
  unfold G_Gear_aims
  by_cases h : t < 0
  · rw [if_pos h, if_neg (by omega)]
  · rw [if_neg h, gd1 hj, gd1 hs]
    by_cases hb : p_cmp (p_and6 (p_ushr6 (c 2011 j s.toNat) t) 1) 1 = 0
    · rw [if_neg (by simp [hb]), if_pos ⟨by omega, hb⟩]
    · rw [if_pos hb, if_neg (fun z => hb z.2)]
theorem s_wants {b : Nat} {c : h_C} {m : h_M} (h : RR b c m) {w g q : Nat} (hw : w < 3) (hg : (g : Int) < m 3 w) (hk : m 5 (40 * w + g) = 5 ∨ m 5 (40 * w + g) = 6) (hq : q < 2001) (hT : m 30 q = -9 ∨ m 30 q = -8 ∨ (0 ≤ m 30 q ∧ m 30 q < 40)) : ∃ s : Int, 0 ≤ s ∧ (s = 0 ∨ (m 5 (40 * w + g) = 5 ∧ s < 2) ∨ (m 5 (40 * w + g) = 6 ∧ s < 3)) ∧ G_Gear_wantedSide (40 * w + g + 1) (m 30 q) c = some s ∧ G_Mo_wants ((40 * w + g : Nat) : Int) (q : Int) m = some s := by
  obtain ⟨g40, i120, hj, eK, _⟩ := h.gr hw hg
  obtain ⟨s1, s2, s3, s4, s5, s6, s7⟩ := (h.G.1 (40 * w + g)).2.2.2.2.2.2.2
  generalize hA1 : (0 ≤ m 30 q ∧ p_cmp (p_and6 (p_ushr6 (m 11 (2 * (40 * w + g))) (m 30 q)) 1) 1 = 0) = A1
  generalize hA2 : (0 ≤ m 30 q ∧ p_cmp (p_and6 (p_ushr6 (m 11 (2 * (40 * w + g) + 1)) (m 30 q)) 1) 1 = 0) = A2
  have d1 : A1 ∨ ¬ A1 := Classical.em _
  have d2 : A2 ∨ ¬ A2 := Classical.em _
  have hC : ∀ (r1 r2 : Int), (A1 → r1 = 1) → (¬ A1 → r1 = 0) → (A2 → r2 = 1) → (¬ A2 → r2 = 0) → G_Gear_wantedSide (40 * w + g + 1) (m 30 q) c = some (if r1 = 1 then 1 else if r2 = 1 then 2 else 0) := by
    intro r1 r2 x1 x2 x3 x4
    have E1 : (if 0 ≤ m 30 q ∧ p_cmp (p_and6 (p_ushr6 (m 11 (2 * (40 * w + g))) (m 30 q)) 1) 1 = 0 then (1 : Int) else 0) = r1 := by
      rcases d1 with d | d
      · rw [if_pos (by rw [hA1]; exact d)]; exact (x1 d).symm
      · rw [if_neg (by rw [hA1]; exact d)]; exact (x2 d).symm
    have E2 : (if 0 ≤ m 30 q ∧ p_cmp (p_and6 (p_ushr6 (m 11 (2 * (40 * w + g) + 1)) (m 30 q)) 1) 1 = 0 then (1 : Int) else 0) = r2 := by
      rcases d2 with d | d
      · rw [if_pos (by rw [hA2]; exact d)]; exact (x3 d).symm
      · rw [if_neg (by rw [hA2]; exact d)]; exact (x4 d).symm
    unfold G_Gear_wantedSide
    rw [gd1 hj, s_aims hj 1 _ (by omega), s_aims hj 2 _ (by omega), show (1 : Int).toNat = 1 from rfl, show (2 : Int).toNat = 2 from rfl, s1, s2, E1, E2, q_some, q_some]
    have y1 : r1 = 0 ∨ r1 = 1 := by
      rcases d1 with d | d
      · exact Or.inr (x1 d)
      · exact Or.inl (x2 d)
    have y2 : r2 = 0 ∨ r2 = 1 := by
      rcases d2 with d | d
      · exact Or.inr (x3 d)
      · exact Or.inl (x4 d)
    rcases y1 with rfl | rfl
    · rcases y2 with rfl | rfl <;> rfl
    · rfl
  -- one round of the reference's loop
  have rd : ∀ (n : Nat) (s : Nat), 1 ≤ s → s ≤ 2 → GO_Mo_wants_10 (n + 1) ((40 * w + g : Nat) : Int) (m 30 q) (s : Int) m = (if (if m 5 (40 * w + g) = 5 then 2 else if m 5 (40 * w + g) = 6 then 3 else 0) ≤ (s : Int) then some 0 else if m 30 q < 0 then GO_Mo_wants_10 n ((40 * w + g : Nat) : Int) (m 30 q) ((s + 1 : Nat) : Int) m else if p_cmp (p_and6 (p_shr6 (m 11 (2 * (40 * w + g) + s - 1)) (m 30 q)) 1) 1 ≠ 0 then GO_Mo_wants_10 n ((40 * w + g : Nat) : Int) (m 30 q) ((s + 1 : Nat) : Int) m else some (s : Int)) := by
    intro n s h1 h2
    show GL_Mo_wants_10 _ _ _ _ m = _
    unfold GL_Mo_wants_10 GB_Mo_wants_53
    simp only [gd1 (show (0 : Int) ≤ ((40 * w + g : Nat) : Int) ∧ ((40 * w + g : Nat) : Int) < 120 by omega), Int.toNat_natCast, s_mSides, q_some, bi1, p_w1 (x := ((s + 1 : Nat) : Int)) (by omega) (by omega), show (s : Int) + 1 = ((s + 1 : Nat) : Int) by omega, p_w1 (x := 2 * ((40 * w + g : Nat) : Int)) (by omega) (by omega), p_w1 (x := 2 * ((40 * w + g : Nat) : Int) + (s : Int)) (by omega) (by omega), p_w1 (x := 2 * ((40 * w + g : Nat) : Int) + (s : Int) - 1) (by omega) (by omega), gd1 (show (0 : Int) ≤ 2 * ((40 * w + g : Nat) : Int) + (s : Int) - 1 ∧ 2 * ((40 * w + g : Nat) : Int) + (s : Int) - 1 < 240 by omega), show (2 * ((40 * w + g : Nat) : Int) + (s : Int) - 1).toNat = 2 * (40 * w + g) + s - 1 by omega]
  have sh1 : 0 ≤ m 30 q → p_shr6 (m 11 (2 * (40 * w + g))) (m 30 q) = p_ushr6 (m 11 (2 * (40 * w + g))) (m 30 q) := fun z => by
    obtain ⟨t, ht⟩ : ∃ t : Nat, m 30 q = (t : Int) := ⟨(m 30 q).toNat, by omega⟩
    rw [ht]
    exact (shr_eq s3 s4 (by omega)).symm
  have sh2 : 0 ≤ m 30 q → p_shr6 (m 11 (2 * (40 * w + g) + 1)) (m 30 q) = p_ushr6 (m 11 (2 * (40 * w + g) + 1)) (m 30 q) := fun z => by
    obtain ⟨t, ht⟩ : ∃ t : Nat, m 30 q = (t : Int) := ⟨(m 30 q).toNat, by omega⟩
    rw [ht]
    exact (shr_eq s5 s6 (by omega)).symm
  have st : G_Mo_wants ((40 * w + g : Nat) : Int) (q : Int) m = GO_Mo_wants_10 3000 ((40 * w + g : Nat) : Int) (m 30 q) 1 m := by
    unfold G_Mo_wants
    rw [gd1 (by omega), Int.toNat_natCast, bi1]
  have r1 : ∀ n : Nat, GO_Mo_wants_10 (n + 1) ((40 * w + g : Nat) : Int) (m 30 q) 1 m = _ := fun n => rd n 1 (by omega) (by omega)
  have r2 : ∀ n : Nat, GO_Mo_wants_10 (n + 1) ((40 * w + g : Nat) : Int) (m 30 q) ((1 + 1 : Nat) : Int) m = _ := fun n => rd n 2 (by omega) (by omega)
  have r3 : ∀ n : Nat, GO_Mo_wants_10 (n + 1) ((40 * w + g : Nat) : Int) (m 30 q) ((2 + 1 : Nat) : Int) m = some 0 := fun n => by
    show GL_Mo_wants_10 _ _ _ _ m = _
    unfold GL_Mo_wants_10
    rw [gd1 (by omega), Int.toNat_natCast, s_mSides, q_some]
    refine ifT ?_ rfl
    repeat' split
    all_goals omega
  have gen : ∀ n : Nat, ∃ s : Int, 0 ≤ s ∧ (s = 0 ∨ (m 5 (40 * w + g) = 5 ∧ s < 2) ∨ (m 5 (40 * w + g) = 6 ∧ s < 3)) ∧ G_Gear_wantedSide (40 * w + g + 1) (m 30 q) c = some s ∧ GO_Mo_wants_10 (n + 3) ((40 * w + g : Nat) : Int) (m 30 q) 1 m = some s := by
    intro n
    have e1 := r1 (n + 2)
    have e2 := r2 (n + 1)
    have e3 := r3 n
    rw [show 2 * (40 * w + g) + 1 - 1 = 2 * (40 * w + g) by omega] at e1
    rw [show 2 * (40 * w + g) + 2 - 1 = 2 * (40 * w + g) + 1 by omega] at e2
    rw [show n + 2 + 1 = n + 3 by omega] at e1
    rw [show n + 1 + 1 = n + 2 by omega] at e2
    rcases d1 with d1 | d1
    · refine ⟨1, by omega, ?_, ?_, ?_⟩
      · rcases hk with k | k <;> omega
      · rcases d2 with d2 | d2
        · exact hC 1 1 (fun _ => rfl) (fun z => absurd d1 z) (fun _ => rfl) (fun z => absurd d2 z)
        · exact hC 1 0 (fun _ => rfl) (fun z => absurd d1 z) (fun z => absurd z d2) (fun _ => rfl)
      · have d1' := d1
        rw [← hA1] at d1'
        rw [e1, if_neg (by rcases hk with k | k <;> simp [k]), if_neg (by omega), if_neg (by rw [sh1 d1'.1]; simp [d1'.2])]
        rfl
    · have step1 : GO_Mo_wants_10 (n + 3) ((40 * w + g : Nat) : Int) (m 30 q) 1 m = GO_Mo_wants_10 (n + 2) ((40 * w + g : Nat) : Int) (m 30 q) ((1 + 1 : Nat) : Int) m := by
        rw [e1, if_neg (by rcases hk with k | k <;> simp [k])]
        by_cases z : m 30 q < 0
        · rw [if_pos z]
        · rw [if_neg z, if_pos (by rw [sh1 (by omega)]; intro y; exact d1 (by rw [← hA1]; exact ⟨by omega, y⟩))]
      rcases hk with k | k
      · refine ⟨0, by omega, Or.inl rfl, ?_, ?_⟩
        · have d2' : ¬ A2 := by
            intro z
            rw [← hA2, s7 k] at z
            obtain ⟨z1, z2⟩ := z
            have := y_zero ⟨(m 30 q).toNat, by omega⟩
            simp only at this
            rw [show (((m 30 q).toNat : Nat) : Int) = m 30 q by omega] at this
            rw [this] at z2
            exact absurd z2 (by decide)
          have := hC 0 0 (fun z => absurd z d1) (fun _ => rfl) (fun z => absurd z d2') (fun _ => rfl)
          rw [if_neg (by decide), if_neg (by decide)] at this
          exact this
        · rw [step1, e2, if_pos (by simp [k])]
      · rcases d2 with d2 | d2
        · refine ⟨2, by omega, Or.inr (Or.inr ⟨k, by omega⟩), ?_, ?_⟩
          · have := hC 0 1 (fun z => absurd z d1) (fun _ => rfl) (fun _ => rfl) (fun z => absurd d2 z)
            rw [if_neg (by decide), if_pos rfl] at this
            exact this
          · have d2' := d2
            rw [← hA2] at d2'
            rw [step1, e2, if_neg (by simp [k]), if_neg (by omega), if_neg (by rw [sh2 d2'.1]; simp [d2'.2])]
            rfl
        · refine ⟨0, by omega, Or.inl rfl, ?_, ?_⟩
          · have := hC 0 0 (fun z => absurd z d1) (fun _ => rfl) (fun z => absurd z d2) (fun _ => rfl)
            rw [if_neg (by decide), if_neg (by decide)] at this
            exact this
          · rw [step1, e2, if_neg (by simp [k])]
            by_cases z : m 30 q < 0
            · rw [if_pos z, e3]
            · rw [if_neg z, if_pos (by rw [sh2 (by omega)]; intro y; exact d2 (by rw [← hA2]; exact ⟨by omega, y⟩)), e3]
  obtain ⟨s, g1, g2, g3, g4⟩ := gen 2997
  exact ⟨s, g1, g2, g3, by rw [st]; exact g4⟩
theorem ZZ.takes {b : Nat} (hb : b < 1000000000) {c : h_C} {m : h_M} {w : Nat} {F L : Int} (h : ZZ b c m w F L) (hCH : CH c m w) {t g pl q : Nat} (ht : (t : Int) < m 3 w) (hk : m 5 (40 * w + t) < 9) (hg : (g : Int) < m 3 w) (p1 : 1 ≤ pl) (p30 : pl ≤ 30) (hp : PO b c m w pl q) : ∃ r c' m', G_Step_takes (t : Int) (g : Int) (c 104 (31 * w + pl) 0) c = some (r, c') ∧ G_Mo_takes (t : Int) (g : Int) (q : Int) m = some (r, m') ∧ (r = 0 ∨ r = 1) ∧ (r = 1 → c 2012 (40 * w + t + 1) 0 = 0) ∧ ZZ (b + 2) c' m' w F L ∧ eC [211, 2037, 15, 6] c c' ∧ eM [44, 45, 12, 10] m m' := by
  obtain ⟨hR, ⟨hw, e1, e2, e3, e4, e5⟩, _⟩ := id h
  obtain ⟨t40, i120, hj, eK, k0, k10, eL, l0, l8, lt, ln⟩ := hR.gr hw ht
  have n2 := hR.N.2.2.1
  obtain ⟨⟨⟨q1, q2, q3, q4⟩, _⟩, _, _, ⟨t1, t2⟩, _⟩ := id hp
  have hs := (hR.P.2.1 w t 0 hw t40 (by omega)).pos
  rw [Nat.add_zero] at hs
  have hCt := hCH t ht
  have i8 : (8 * ((40 * w + t : Nat) : Int)).toNat = 8 * (40 * w + t) := by omega
  -- room
  obtain ⟨rm, hrm, hrC⟩ : ∃ rm : Int, rm = (if m 22 (8 * (40 * w + t)) ≠ 0 then 0 else 1) ∧ rm = (if c 2012 (40 * w + t + 1) 0 = 0 then 1 else 0) := by
    refine ⟨_, rfl, ?_⟩
    by_cases z : c 2012 (40 * w + t + 1) 0 = 0
    · rw [if_pos z, if_neg]
      intro y
      have := hs.1
      exact absurd z (this.mp (by omega))
    · rw [if_neg z, if_pos]
      have := hs.1.mpr z
      omega
  have rm01 : rm = 0 ∨ rm = 1 := by rw [hrC]; split <;> simp
  have hfr : rm = 1 → c 2012 (40 * w + t + 1) 0 = 0 := fun z => by
    rw [hrC] at z
    by_cases y : c 2012 (40 * w + t + 1) 0 = 0
    · exact y
    · rw [if_neg y] at z; omega
  have hMs : ∀ x, GB_Mo_takes_25 (t : Int) (g : Int) (q : Int) ((40 * w + t : Nat) : Int) rm m = x → G_Mo_takes (t : Int) (g : Int) (q : Int) m = x := by
    intro x hx
    unfold G_Mo_takes
    rw [s_g hw e1 t40, q_some, p_w1 (by omega) (by omega), gd1 (by omega), i8]
    by_cases z : m 22 (8 * (40 * w + t)) ≠ 0
    · rw [if_pos z]
      rw [if_pos z] at hrm
      rw [hrm] at hx
      exact hx
    · rw [if_neg z]
      rw [if_neg z] at hrm
      rw [hrm] at hx
      exact hx
  have hCs : ∀ (c3 : h_C), eC [211, 2037] c c3 → G_Gear_isFreeAtStart (40 * w + t + 1) c3 = some rm := fun c3 n => by
    rw [s_cFree hj, n 2012 (by decide), ← hrC]
  have hq2 : (0 : Int) ≤ (q : Int) ∧ (q : Int) < 2001 := by omega
  by_cases k2 : m 5 (40 * w + t) = 2
  · obtain ⟨c1, m1, x1, x2, x3, x4, x5⟩ := h.tr (by omega) 21
    by_cases hch : m 74 t = (g : Int)
    · obtain ⟨c2, m2, y1, y2, y3, y4, y5⟩ := x3.tr (by omega) 20
      have nC := x4.tr y4
      have nM := x5.tr y5
      have hM : G_Mo_takes (t : Int) (g : Int) (q : Int) m = some (rm, if rm = 0 then m2 else wm m2 12 (40 * w + t) (g : Int)) := hMs _ (by
        unfold GB_Mo_takes_25
        rw [gd1 (by omega), Int.toNat_natCast, if_pos k2, x2, q_some, gd1 (by omega), Int.toNat_natCast, x5 74 (by decide), if_pos hch, y2, q_some]
        by_cases z : rm = 0
        · rw [if_pos z, if_pos z, gd1 rm01]
        · rw [if_neg z, if_neg z, bi1, gd1 rm01])
      have hC : G_Step_takes (t : Int) (g : Int) (c 104 (31 * w + pl) 0) c = some (rm, if rm = 0 then c2 else wc c2 15 (40 * w + t + 1) 0 (g : Int)) := by
        unfold G_Step_takes G_Step_mergeTakes
        rw [e5, Int.toNat_natCast, Int.toNat_natCast, gd1 (by omega), gd1 (by omega), eK, if_pos k2, x1, q_some, gd1 hj, x4 19 (by decide), hCt, if_pos hch, y1, q_some, hCs c2 nC, q_some]
        rcases rm01 with z | z
        · rw [z, if_neg (by decide), q_some2, gd1 (Or.inl rfl), if_pos rfl]
        · rw [z, if_pos (by decide), bi1, q_some2, gd1 (Or.inr rfl), if_neg (by decide)]
      refine ⟨rm, _, _, hC, hM, rm01, hfr, ?_, ?_, ?_⟩
      · by_cases z : rm = 0
        · rw [if_pos z, if_pos z]; exact y3
        · rw [if_neg z, if_neg z]
          exact y3.ofE (lc := [15]) (lm := [12]) (Nat.le_refl _) (y3.1.f15 (40 * w + t) _ (by omega)) (by repeat first | exact eC.rf _ _ | refine eC.wc ?_ (by decide) _ _ _ | refine eC.sr ?_ (by decide) _ _) (by repeat first | exact eM.rf _ _ | refine eM.wm ?_ (by decide) _ _) rfl rfl
      · by_cases z : rm = 0
        · rw [if_pos z]; exact nC.up (by decide)
        · rw [if_neg z]; exact (nC.up (by decide)).wc (by decide) _ _ _
      · by_cases z : rm = 0
        · rw [if_pos z]; exact nM.up (by decide)
        · rw [if_neg z]; exact (nM.up (by decide)).wm (by decide) _ _
    · refine ⟨0, c1, m1, ?_, hMs _ ?_, Or.inl rfl, fun z => by omega, x3.of (Nat.le_succ _) (x3.1.more (Nat.le_succ _)) (fun _ _ => rfl) (fun _ _ => rfl), x4.up (by decide), x5.up (by decide)⟩
      · unfold G_Step_takes G_Step_mergeTakes
        rw [e5, Int.toNat_natCast, Int.toNat_natCast, gd1 (by omega), gd1 (by omega), eK, if_pos k2, x1, q_some, gd1 hj, x4 19 (by decide), hCt, if_neg hch, q_some2, gd1 (Or.inl rfl)]
      · unfold GB_Mo_takes_25
        rw [gd1 (by omega), Int.toNat_natCast, if_pos k2, x2, q_some, gd1 (by omega), Int.toNat_natCast, x5 74 (by decide), if_neg hch]
  by_cases k56 : m 5 (40 * w + t) = 5 ∨ m 5 (40 * w + t) = 6
  · obtain ⟨c1, m1, x1, x2, x3, x4, x5⟩ := h.tr (by omega) 22
    have hp1 : PO (b + 1) c1 m1 w pl q := PO.more (Nat.le_succ b) (hp.fr (fun f hf => x4.of hf rfl) (fun f hf => x5.of hf rfl))
    obtain ⟨s, s0, s1, s2, s3⟩ := s_wants x3.1 hw (g := t) (q := q) (by rw [x5 3 (by decide)]; exact ht) (by rw [x5 5 (by decide)]; exact k56) (by omega) (by rw [x5 30 (by decide)]; exact t2)
    rw [x5 30 (by decide), t1] at s2
    rw [x5 5 (by decide)] at s1
    have a1 := (hR.G.1 (40 * w + t)).1.1
    have ld1 : G_Gear_parcels (40 * w + t + 1) c1 = some (ld m1 (40 * w + t) : Int) := s_parcels x3.1 hw (by rw [x5 3 (by decide)]; exact ht)
    have ld2 : G_Mo_loadOf ((40 * w + t : Nat) : Int) m1 = some (ld m1 (40 * w + t) : Int) := s_load i120 (by rw [x5 6 (by decide)]; exact l0) (by rw [x5 6 (by decide)]; exact l8)
    have ending : ∀ (r : Int) (c2 : h_C) (m2 : h_M), G_Step_divertTakes (40 * w + t + 1) s c1 = some (r, c2) → (r = 0 ∨ r = 1) → (∀ x, (if m1 10 (40 * w + t) ≠ s then (if (ld m1 (40 * w + t) : Int) ≠ 0 then some (0, m1) else some (0, wm m1 10 (40 * w + t) s)) else some (rm, m1)) = x → x = some (r, m2)) → (G_Step_takes (t : Int) (g : Int) (c 104 (31 * w + pl) 0) c = some (r, c2) ∧ G_Mo_takes (t : Int) (g : Int) (q : Int) m = some (r, m2)) := by
      intro r c2 m2 z1 z2 z3
      have z3 := z3 _ rfl
      refine ⟨?_, hMs _ ?_⟩
      · unfold G_Step_takes
        rw [e5, Int.toNat_natCast, Int.toNat_natCast, gd1 (by omega), gd1 (by omega), eK, if_neg k2]
        rcases k56 with k | k
        · rw [if_pos k, x1, q_some, s2, q_some, z1, q_some2, gd1 z2]
        · rw [if_neg (by omega), if_pos k, x1, q_some, s2, q_some, z1, q_some2, gd1 z2]
      · unfold GB_Mo_takes_25
        rw [gd1 (by omega), Int.toNat_natCast, if_neg k2, x2, q_some, s3, q_some, ld2, q_some, gd1 rm01, bi1]
        rcases k56 with k | k
        · rw [if_pos k]; exact z3
        · rw [if_neg (by omega), if_pos k]; exact z3
    by_cases c3 : m 10 (40 * w + t) = s
    · obtain ⟨y1, y2⟩ := ending rm c1 m1 (by
        unfold G_Step_divertTakes
        rw [gd1 hj, x4 6 (by decide), a1, if_neg (by simp [c3]), hCs c1 x4, q_some, gd1 rm01]) rm01 (fun x hx => by rw [← hx, x5 10 (by decide), if_neg (by simp [c3])])
      exact ⟨rm, c1, m1, y1, y2, rm01, hfr, x3.of (Nat.le_succ _) (x3.1.more (Nat.le_succ _)) (fun _ _ => rfl) (fun _ _ => rfl), x4.up (by decide), x5.up (by decide)⟩
    · by_cases c4 : ld m1 (40 * w + t) = 0
      · obtain ⟨y1, y2⟩ := ending 0 (wc c1 6 (40 * w + t + 1) 0 s) (wm m1 10 (40 * w + t) s) (by
          unfold G_Step_divertTakes
          rw [gd1 hj, x4 6 (by decide), a1, if_pos c3, ld1, q_some, c4, if_neg (by simp), bi1]) (Or.inl rfl) (fun x hx => by rw [← hx, x5 10 (by decide), if_pos c3, c4, if_neg (by simp)])
        refine ⟨0, _, _, y1, y2, Or.inl rfl, fun z => by omega, ?_, (x4.up (by decide)).wc (by decide) _ _ _, (x5.up (by decide)).wm (by decide) _ _⟩
        have hz := x3.1.f6 (40 * w + t) s (by rw [x5 5 (by decide)]; exact ⟨s0, s1⟩)
        exact x3.ofE (lc := [6]) (lm := [10]) (Nat.le_succ _) (hz.more (Nat.le_succ _)) (by repeat first | exact eC.rf _ _ | refine eC.wc ?_ (by decide) _ _ _ | refine eC.sr ?_ (by decide) _ _) (by repeat first | exact eM.rf _ _ | refine eM.wm ?_ (by decide) _ _) rfl rfl
      · obtain ⟨y1, y2⟩ := ending 0 c1 m1 (by
          unfold G_Step_divertTakes
          rw [gd1 hj, x4 6 (by decide), a1, if_pos c3, ld1, q_some, if_pos (by omega)]) (Or.inl rfl) (fun x hx => by rw [← hx, x5 10 (by decide), if_pos c3, if_pos (by omega)])
        exact ⟨0, c1, m1, y1, y2, Or.inl rfl, fun z => by omega, x3.of (Nat.le_succ _) (x3.1.more (Nat.le_succ _)) (fun _ _ => rfl) (fun _ _ => rfl), x4.up (by decide), x5.up (by decide)⟩
  have n5 : ¬ m 5 (40 * w + t) = 5 := fun z => k56 (Or.inl z)
  have n6 : ¬ m 5 (40 * w + t) = 6 := fun z => k56 (Or.inr z)
  have chute : ∀ (v x : Int), (∀ y, (if m 5 (40 * w + t) = 7 then (if m 30 q ≠ (t : Int) then (0 : Int) else if rm = 0 then 0 else 1) else (if m 30 q ≠ -8 then 0 else if rm = 0 then 0 else 1)) = y → y = x) → (v = if m 5 (40 * w + t) = 7 then 23 else 24) → (m 5 (40 * w + t) = 7 ∨ m 5 (40 * w + t) = 8) → ∃ c' m', G_Step_takes (t : Int) (g : Int) (c 104 (31 * w + pl) 0) c = some (x, c') ∧ G_Mo_takes (t : Int) (g : Int) (q : Int) m = some (x, m') ∧ ZZ (b + 2) c' m' w F L ∧ eC [211, 2037, 15, 6] c c' ∧ eM [44, 45, 12, 10] m m' := by
    intro v x hx hv h78
    have hx := hx _ rfl
    obtain ⟨c1, m1, x1, x2, x3, x4, x5⟩ := h.tr (by omega) v
    refine ⟨c1, m1, ?_, hMs _ ?_, x3.of (Nat.le_succ _) (x3.1.more (Nat.le_succ _)) (fun _ _ => rfl) (fun _ _ => rfl), x4.up (by decide), x5.up (by decide)⟩
    · have key : GB_Step_takes_104 (t : Int) (c 104 (31 * w + pl) 0) (40 * w + t + 1) v c = some (x, c1) := by
        unfold GB_Step_takes_104
        rw [x1, q_some, gd1 hj, s_cChuteFor hj, hCs c1 x4, x4 0 (by decide), eK, ← t1, q_some, q_some]
        rcases h78 with z | z
        · rw [if_pos z] at hx
          by_cases y : m 30 q = (t : Int)
          · rw [if_neg (by simp [y])] at hx
            rw [if_neg (by rw [if_pos (Or.inl ⟨z, y⟩)]; decide)]
            by_cases u : rm = 0
            · rw [if_pos u]; rw [if_pos u] at hx; rw [← hx]
            · rw [if_neg u]; rw [if_neg u] at hx; rw [← hx]
          · rw [if_pos y] at hx
            rw [if_pos (by rw [if_neg (by omega)]), ← hx]
        · rw [if_neg (by omega)] at hx
          by_cases y : m 30 q = -8
          · rw [if_neg (by simp [y])] at hx
            rw [if_neg (by rw [if_pos (Or.inr ⟨by omega, y⟩)]; decide)]
            by_cases u : rm = 0
            · rw [if_pos u]; rw [if_pos u] at hx; rw [← hx]
            · rw [if_neg u]; rw [if_neg u] at hx; rw [← hx]
          · rw [if_pos y] at hx
            rw [if_pos (by rw [if_neg (by omega)]), ← hx]
      unfold G_Step_takes
      rw [e5, Int.toNat_natCast, Int.toNat_natCast, gd1 (by omega), gd1 (by omega), eK, if_neg k2, if_neg n5, if_neg n6]
      rcases h78 with z | z
      · rw [if_pos z] at hv
        rw [if_pos z, if_neg (by simp [z]), ← hv]
        exact key
      · rw [if_neg (by omega)] at hv
        rw [if_neg (by omega), if_pos z, if_pos (by omega), ← hv]
        exact key
    · unfold GB_Mo_takes_25
      rw [gd1 (by omega), Int.toNat_natCast, if_neg k2, if_neg n5, if_neg n6]
      rcases h78 with z | z
      · rw [if_pos z] at hv hx
        rw [if_pos z, ← hv, x2, q_some, gd1 hq2, Int.toNat_natCast, x5 30 (by decide)]
        by_cases y : m 30 q = (t : Int)
        · rw [if_neg (by simp [y])] at hx
          rw [if_neg (by simp [y])]
          by_cases u : rm = 0
          · rw [if_pos u]; rw [if_pos u] at hx; rw [← hx]
          · rw [if_neg u]; rw [if_neg u] at hx; rw [← hx]
        · rw [if_pos y] at hx
          rw [if_pos y, ← hx]
      · rw [if_neg (by omega)] at hv hx
        rw [if_neg (by omega), if_pos z, ← hv, x2, q_some, gd1 hq2, Int.toNat_natCast, x5 30 (by decide)]
        by_cases y : m 30 q = -8
        · rw [if_neg (by simp [y])] at hx
          rw [if_neg (by simp [y])]
          by_cases u : rm = 0
          · rw [if_pos u]; rw [if_pos u] at hx; rw [← hx]
          · rw [if_neg u]; rw [if_neg u] at hx; rw [← hx]
        · rw [if_pos y] at hx
          rw [if_pos y, ← hx]
  by_cases k78 : m 5 (40 * w + t) = 7 ∨ m 5 (40 * w + t) = 8
  · obtain ⟨c', m', y1, y2, y3, y4, y5⟩ := chute _ _ (fun y hy => hy.symm) rfl k78
    refine ⟨_, c', m', y1, y2, ?_, fun z => hfr ?_, y3, y4, y5⟩
    · repeat' split
      all_goals simp
    · rcases rm01 with u | u
      · rw [u] at z
        simp at z
      · exact u
  · have n7 : ¬ m 5 (40 * w + t) = 7 := fun z => k78 (Or.inl z)
    have n8 : ¬ m 5 (40 * w + t) = 8 := fun z => k78 (Or.inr z)
    obtain ⟨c1, m1, x1, x2, x3, x4, x5⟩ := h.tr (by omega) 20
    refine ⟨rm, c1, m1, ?_, hMs _ ?_, rm01, hfr, x3.of (Nat.le_succ _) (x3.1.more (Nat.le_succ _)) (fun _ _ => rfl) (fun _ _ => rfl), x4.up (by decide), x5.up (by decide)⟩
    · unfold G_Step_takes
      rw [e5, Int.toNat_natCast, Int.toNat_natCast, gd1 (by omega), gd1 (by omega), eK, if_neg k2, if_neg n5, if_neg n6, if_neg n7, if_neg n8, x1, q_some, hCs c1 x4, q_some, gd1 rm01]
    · unfold GB_Mo_takes_25
      rw [gd1 (by omega), Int.toNat_natCast, if_neg k2, if_neg n5, if_neg n6, if_neg n7, if_neg n8, x2, q_some, gd1 rm01]
