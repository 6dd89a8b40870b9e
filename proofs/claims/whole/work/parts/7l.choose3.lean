theorem vt_lt {m : h_M} {w g t : Nat} (h : vt m w g = (t : Int)) : (t : Int) < m 3 w ∧ m 5 (40 * w + g) < 9 := by
  unfold vt at h
  by_cases r : rdy m w (40 * w + g)
  · refine ⟨?_, r.1⟩
    rw [if_pos r] at h
    unfold fo at h
    repeat' split at h
    all_goals omega
  · rw [if_neg r] at h
    omega
/-- the class's choice and what the reference holds -/
def Iv (m : h_M) (w t g : Nat) (ch : Int) : Prop := (U m w t g = (-1, -1, -1) ∧ ch = -1) ∨ (∃ q : Nat, q < g ∧ ch = (q : Int) ∧ ures (U m w t g) = (q : Int) ∧ (U m w t g).2.2 = m 9 (40 * w + q) ∧ m 5 (40 * w + q) < 9 ∧ (0 ≤ (U m w t g).1 → 0 ≤ m 12 (40 * w + t) ∧ m 12 (40 * w + t) < (U m w t g).1) ∧ ((U m w t g).1 < 0 → m 12 (40 * w + t) < 0 ∨ (U m w t g).2.1 ≤ m 12 (40 * w + t)))
theorem Iv.res {m : h_M} {w t g : Nat} {ch : Int} (h : Iv m w t g ch) : ures (U m w t g) = ch := by
  rcases h with ⟨h1, h2⟩ | ⟨q, _, h2, h3, _⟩
  · rw [h1, h2]; rfl
  · rw [h2, h3]
theorem Iv.skip {m : h_M} {w t g : Nat} {ch : Int} (h : Iv m w t g ch) (hv : vt m w g ≠ (t : Int)) : Iv m w t (g + 1) ch := by
  have e : U m w t (g + 1) = U m w t g := by
    show (if vt m w g = (t : Int) then _ else _) = _
    rw [if_neg hv]
  unfold Iv
  rw [e]
  rcases h with h | ⟨q, h1, h2⟩
  · exact Or.inl h
  · exact Or.inr ⟨q, by omega, h2⟩
/-- whether the class takes the newcomer -/
def bet (m : h_M) (w t g : Nat) (ch : Int) : Int := if ch ≠ -1 then (if m 9 (40 * w + ch.toNat) < m 9 (40 * w + g) then 1 else if m 9 (40 * w + g) ≠ m 9 (40 * w + ch.toNat) then 0 else if m 12 (40 * w + t) < ch then 0 else if (g : Int) ≤ m 12 (40 * w + t) then 0 else 1) else 1
theorem Iv.step {m : h_M} {w t g : Nat} {ch : Int} (h : Iv m w t g ch) (hv : vt m w g = (t : Int)) (hr : 0 ≤ m 9 (40 * w + g)) : Iv m w t (g + 1) (if bet m w t g ch = 0 then ch else (g : Int)) := by
  have k9 := (vt_lt hv).2
  have e : U m w t (g + 1) = ust (U m w t g) (m 12 (40 * w + t)) (g : Int) (m 9 (40 * w + g)) := by
    show (if vt m w g = (t : Int) then _ else _) = _
    rw [if_pos hv]
  unfold Iv at h ⊢
  rw [e]
  generalize U m w t g = u at h ⊢
  obtain ⟨u1, u2, u3⟩ := u
  unfold bet ust ures at *
  simp only at h ⊢
  rcases h with ⟨h1, rfl⟩ | ⟨q, q1, rfl, q2, q3, q4, q5, q6⟩
  · have a1 : u1 = -1 := congrArg (fun z => z.1) h1
    have a2 : u2 = -1 := congrArg (fun z => z.2.1) h1
    have a3 : u3 = -1 := congrArg (fun z => z.2.2) h1
    subst a1; subst a2; subst a3
    refine Or.inr ⟨g, by omega, ?_, ?_⟩
    · rw [if_neg (show ¬ ((-1 : Int) ≠ -1) by decide), if_neg (by decide)]
    · rw [if_neg (show ¬ m 9 (40 * w + g) ≤ -1 by omega)]
      by_cases y1 : (g : Int) ≤ m 12 (40 * w + t)
      · rw [if_pos y1]
        simp only
        refine ⟨by simp, trivial, k9, by omega, by omega⟩
      · rw [if_neg y1]
        by_cases y2 : m 12 (40 * w + t) < 0
        · rw [if_pos y2]
          simp only
          refine ⟨by simp, trivial, k9, by omega, by omega⟩
        · rw [if_neg y2]
          simp only
          refine ⟨by rw [if_neg (by omega)], trivial, k9, by omega, by omega⟩
  · have hq : ((q : Int) ≠ -1) := by omega
    rw [Int.toNat_natCast, if_pos hq]
    subst q3
    by_cases z1 : m 9 (40 * w + q) < m 9 (40 * w + g)
    · refine Or.inr ⟨g, by omega, ?_, ?_⟩
      · rw [if_pos z1, if_neg (by decide)]
      · rw [if_neg (show ¬ m 9 (40 * w + g) ≤ m 9 (40 * w + q) by omega)]
        by_cases y1 : (g : Int) ≤ m 12 (40 * w + t)
        · rw [if_pos y1]
          simp only
          refine ⟨by simp, trivial, k9, by omega, by omega⟩
        · rw [if_neg y1]
          by_cases y2 : m 12 (40 * w + t) < 0
          · rw [if_pos y2]
            simp only
            refine ⟨by simp, trivial, k9, by omega, by omega⟩
          · rw [if_neg y2]
            simp only
            refine ⟨by rw [if_neg (by omega)], trivial, k9, by omega, by omega⟩
    · rw [if_neg z1, if_pos (show m 9 (40 * w + g) ≤ m 9 (40 * w + q) by omega)]
      by_cases z2 : m 9 (40 * w + g) = m 9 (40 * w + q)
      case neg =>
        rw [if_pos z2, if_pos z2, if_pos rfl]
        exact Or.inr ⟨q, by omega, rfl, q2, rfl, q4, q5, q6⟩
      rw [if_neg (show ¬ (m 9 (40 * w + g) ≠ m 9 (40 * w + q)) from fun z => z z2), if_neg (show ¬ (m 9 (40 * w + g) ≠ m 9 (40 * w + q)) from fun z => z z2)]
      by_cases n1 : 0 ≤ u1
      · have eq : u1 = (q : Int) := by rw [if_neg (show ¬ u1 < 0 by omega)] at q2; exact q2
        obtain ⟨y1, y2⟩ := q5 n1
        rw [if_pos n1, if_pos (show m 12 (40 * w + t) < (q : Int) by omega), if_pos rfl]
        exact Or.inr ⟨q, by omega, rfl, q2, rfl, q4, q5, q6⟩
      · have n1' : u1 < 0 := by omega
        have eq : u2 = (q : Int) := by rw [if_pos n1'] at q2; exact q2
        rw [if_neg n1]
        by_cases y2 : m 12 (40 * w + t) < 0
        · rw [if_pos (show m 12 (40 * w + t) < (q : Int) by omega), if_pos rfl, if_neg (show ¬ (g : Int) ≤ m 12 (40 * w + t) by omega), if_pos y2]
          exact Or.inr ⟨q, by omega, rfl, q2, rfl, q4, q5, q6⟩
        · have y3 : u2 ≤ m 12 (40 * w + t) := by rcases q6 n1' with y | y <;> omega
          rw [if_neg (show ¬ m 12 (40 * w + t) < (q : Int) by omega)]
          by_cases y1 : (g : Int) ≤ m 12 (40 * w + t)
          · simp only [if_pos y1, if_true]
            exact Or.inr ⟨q, by omega, rfl, q2, rfl, q4, q5, q6⟩
          · simp only [if_neg y1, if_neg y2, if_neg (show ¬ ((1 : Int) = 0) by decide)]
            refine Or.inr ⟨g, by omega, rfl, ?_⟩
            refine ⟨by rw [if_neg (by omega)], by omega, k9, by omega, by omega⟩
theorem ZZ.choose {b : Nat} {c : h_C} {m : h_M} {w : Nat} {F L : Int} (h : ZZ b c m w F L) : ∃ c' m', G_Step_letMergesChoose c = some c' ∧ G_Mo_choose m = some m' ∧ ZZ b c' m' w F L ∧ CH c' m' w ∧ eC [19] c c' ∧ eM [173, 74] m m' := by
  obtain ⟨hR, ⟨hw, e1, e2, e3, e4, e5⟩, _⟩ := id h
  have f1 := hR.F.1 w
  obtain ⟨n, hn⟩ : ∃ n : Nat, m 3 w = (n : Int) := ⟨(m 3 w).toNat, by omega⟩
  have n40 : n ≤ 40 := by omega
  have w3 : (0 : Int) ≤ (w : Int) ∧ (w : Int) < 3 := by omega
  -- the class forgets
  have key1 : ∀ (d g fu : Nat) (c1 : h_C), g + d = n → d < fu → eC [19] c c1 → (∀ t, t < g → c1 19 (40 * w + t + 1) 0 = -1) → ∃ c2, GO_Step_letMergesChoose_2 fu (g : Int) c1 = GO_Step_letMergesChoose_34 3000 0 c2 ∧ eC [19] c c2 ∧ (∀ t, t < n → c2 19 (40 * w + t + 1) 0 = -1) := by
    intro d
    induction d with
    | zero =>
      intro g fu c1 hd hf y hi
      obtain ⟨fu, rfl⟩ : ∃ g, fu = g + 1 := ⟨fu - 1, by omega⟩
      obtain rfl : g = n := by omega
      refine ⟨c1, ?_, y, hi⟩
      show GL_Step_letMergesChoose_2 _ _ c1 = _
      unfold GL_Step_letMergesChoose_2
      rw [y 5002 (by decide), e4, gd1 w3, Int.toNat_natCast, y 202 (by decide), f1.1, hn, if_pos (by omega)]
    | succ d ih =>
      intro g fu c1 hd hf y hi
      obtain ⟨fu, rfl⟩ : ∃ g, fu = g + 1 := ⟨fu - 1, by omega⟩
      obtain ⟨c2, z1, z2⟩ := ih (g + 1) fu (wc c1 19 (40 * w + g + 1) 0 (-1)) (by omega) (by omega) (y.tr (by repeat first | exact eC.rf _ _ | refine eC.wc ?_ (by decide) _ _ _ | refine eC.sr ?_ (by decide) _ _)) (fun t ht => by
        rw [wc_at]
        by_cases e : t = g
        · rw [if_pos ⟨rfl, by omega, rfl⟩]
        · rw [if_neg (by omega)]; exact hi t (by omega))
      refine ⟨c2, ?_, z2⟩
      rw [← z1]
      show GL_Step_letMergesChoose_2 _ _ c1 = _
      unfold GL_Step_letMergesChoose_2
      rw [y 5002 (by decide), e4, gd1 w3, Int.toNat_natCast, y 202 (by decide), f1.1, hn, if_neg (by omega), y 5003 (by decide), e5, gd1 w3, gd1 (by omega), Int.toNat_natCast, Int.toNat_natCast, bi1, p_w1 (by omega) (by omega), bi1]
      rfl
  -- the class goes through the gears
  have key2 : ∀ (d g fu : Nat) (c1 : h_C), g + d = n → d < fu → eC [19] c c1 → (∀ t, t < n → (m 5 (40 * w + t) = 2 → Iv m w t g (c1 19 (40 * w + t + 1) 0)) ∧ (m 5 (40 * w + t) ≠ 2 → c1 19 (40 * w + t + 1) 0 = -1)) → ∃ c2, GO_Step_letMergesChoose_34 fu (g : Int) c1 = some c2 ∧ eC [19] c c2 ∧ (∀ t, t < n → (m 5 (40 * w + t) = 2 → Iv m w t n (c2 19 (40 * w + t + 1) 0)) ∧ (m 5 (40 * w + t) ≠ 2 → c2 19 (40 * w + t + 1) 0 = -1)) := by
    intro d
    induction d with
    | zero =>
      intro g fu c1 hd hf y hi
      obtain ⟨fu, rfl⟩ : ∃ g, fu = g + 1 := ⟨fu - 1, by omega⟩
      obtain rfl : g = n := by omega
      refine ⟨c1, ?_, y, hi⟩
      show GL_Step_letMergesChoose_34 _ _ c1 = _
      unfold GL_Step_letMergesChoose_34
      rw [y 5002 (by decide), e4, gd1 w3, Int.toNat_natCast, y 202 (by decide), f1.1, hn, if_pos (by omega)]
    | succ d ih =>
      intro g fu c1 hd hf y hi
      obtain ⟨fu, rfl⟩ : ∃ g, fu = g + 1 := ⟨fu - 1, by omega⟩
      have h1 : RR b c1 m := hR.scr [19] [] y (eM.rf _ _) rfl rfl
      have hg : (g : Int) < m 3 w := by omega
      have x1 := s_wayC h1 hw (by rw [y 5002 (by decide)]; exact e4) (by rw [y 5003 (by decide)]; exact e5) hg (GO_Step_letMergesChoose_34 fu)
      have nx : ∀ c2 : h_C, GB_Step_letMergesChoose_144 (GO_Step_letMergesChoose_34 fu) (g : Int) c2 = GO_Step_letMergesChoose_34 fu ((g + 1 : Nat) : Int) c2 := fun c2 => by
        unfold GB_Step_letMergesChoose_144
        rw [p_w1 (by omega) (by omega), bi1]
        rfl
      have go : GO_Step_letMergesChoose_34 (fu + 1) (g : Int) c1 = GB_Step_letMergesChoose_93 (GO_Step_letMergesChoose_34 fu) (g : Int) (vt m w g) c1 := x1
      rw [go]
      unfold GB_Step_letMergesChoose_93
      simp only [nx]
      by_cases v0 : vt m w g < 0
      · rw [if_pos v0]
        exact ih (g + 1) fu c1 (by omega) (by omega) y (fun t ht => ⟨fun k2 => ((hi t ht).1 k2).skip (by omega), (hi t ht).2⟩)
      obtain ⟨T, hT⟩ : ∃ T : Nat, vt m w g = (T : Int) := ⟨(vt m w g).toNat, by omega⟩
      obtain ⟨T3, k9⟩ := vt_lt hT
      have Tn : T < n := by omega
      obtain ⟨T40, i120T, hjT, eKT, _⟩ := h1.gr hw T3
      obtain ⟨_, _, _, c15, _⟩ := (h1.G.2 w T hw T40).1 T3
      obtain ⟨g40, i120, hj, eK, _⟩ := h1.gr hw hg
      rw [hT] at v0 ⊢
      rw [if_neg v0, y 5003 (by decide), e5, gd1 w3, gd1 (by omega), Int.toNat_natCast, Int.toNat_natCast, eKT]
      by_cases k2 : m 5 (40 * w + T) = 2
      case neg =>
        rw [if_pos k2]
        refine ih (g + 1) fu c1 (by omega) (by omega) y (fun t ht => ⟨fun k2' => ((hi t ht).1 k2').skip (fun z => ?_), (hi t ht).2⟩)
        rw [hT] at z
        have : T = t := by omega
        subst this
        exact k2 k2'
      rw [if_neg (show ¬ m 5 (40 * w + T) ≠ 2 from fun z => z k2)]
      have iv := (hi T Tn).1 k2
      have c2g := ((h1.G.1 (40 * w + g)).2.2.2.2.1 k9)
      have hb : G_Step_isBetter (g : Int) (40 * w + T + 1) c1 = some (bet m w T g (c1 19 (40 * w + T + 1) 0)) := by
        unfold G_Step_isBetter bet GB_Step_isBetter_71
        rw [gd1 hjT]
        rcases iv with ⟨_, i2⟩ | ⟨q, q1, q2, q3, q4, q5, _⟩
        · rw [i2, if_neg (show ¬ ((-1 : Int) ≠ -1) by decide), if_neg (show ¬ ((-1 : Int) ≠ -1) by decide)]
        · have c2q := ((h1.G.1 (40 * w + q)).2.2.2.2.1 q5)
          rw [q2, if_pos (show (q : Int) ≠ -1 by omega), if_pos (show (q : Int) ≠ -1 by omega), y 5003 (by decide), e5, gd1 w3, gd1 (by omega), Int.toNat_natCast, Int.toNat_natCast, Int.toNat_natCast, bi1, gd1 (by omega), bi1, c2g.1, c2q.1, c15]
          repeat' split
          all_goals rfl
      rw [hb, q_some]
      have st := iv.step hT c2g.2
      by_cases bz : bet m w T g (c1 19 (40 * w + T + 1) 0) = 0
      · rw [if_pos bz]
        rw [if_pos bz] at st
        refine ih (g + 1) fu c1 (by omega) (by omega) y (fun t ht => ⟨fun k2' => ?_, (hi t ht).2⟩)
        by_cases e : t = T
        · subst e; exact st
        · exact ((hi t ht).1 k2').skip (by omega)
      · rw [if_neg bz, bi1]
        rw [if_neg bz] at st
        refine ih (g + 1) fu (wc c1 19 (40 * w + T + 1) 0 (g : Int)) (by omega) (by omega) (y.tr (by repeat first | exact eC.rf _ _ | refine eC.wc ?_ (by decide) _ _ _ | refine eC.sr ?_ (by decide) _ _)) (fun t ht => ?_)
        rw [wc_at]
        by_cases e : t = T
        · subst e
          rw [if_pos ⟨rfl, rfl, rfl⟩]
          exact ⟨fun _ => st, fun z => absurd k2 z⟩
        · rw [if_neg (by omega)]
          exact ⟨fun k2' => ((hi t ht).1 k2').skip (by omega), (hi t ht).2⟩
  -- the reference, merge by merge
  have key3 : ∀ (d t fu : Nat) (m1 : h_M), t + d = n → d < fu → eM [173, 74] m m1 → (∀ t', t' < t → m1 74 t' = (if m 5 (40 * w + t') = 2 then ures (U m w t' n) else -1)) → ∃ m', GO_Mo_choose_2 fu (t : Int) m1 = some m' ∧ eM [173, 74] m m' ∧ (∀ t', t' < n → m' 74 t' = (if m 5 (40 * w + t') = 2 then ures (U m w t' n) else -1)) := by
    intro d
    induction d with
    | zero =>
      intro t fu m1 hd hf y hi
      obtain ⟨fu, rfl⟩ : ∃ g, fu = g + 1 := ⟨fu - 1, by omega⟩
      obtain rfl : t = n := by omega
      refine ⟨m1, ?_, y, hi⟩
      show GL_Mo_choose_2 _ _ m1 = _
      unfold GL_Mo_choose_2
      rw [y 100 (by decide), e1, gd1 w3, Int.toNat_natCast, y 3 (by decide), hn, if_pos (by omega)]
    | succ d ih =>
      intro t fu m1 hd hf y hi
      obtain ⟨fu, rfl⟩ : ∃ g, fu = g + 1 := ⟨fu - 1, by omega⟩
      have y1 : eM [173, 74] m (wm m1 74 t (-1)) := y.tr (eM.up (l := [74]) (by repeat first | exact eM.rf _ _ | refine eM.wm ?_ (by decide) _ _) (by decide))
      have h1 : RR b c (wm m1 74 t (-1)) := hR.scr [] [173, 74] (eC.rf _ _) y1 rfl rfl
      have e11 : (wm m1 74 t (-1)) 100 0 = (w : Int) := by rw [y1 100 (by decide)]; exact e1
      have t3 : (t : Int) < (wm m1 74 t (-1)) 3 w := by rw [y1 3 (by decide)]; omega
      have nx : ∀ m2 : h_M, GB_Mo_choose_47 (GO_Mo_choose_2 fu) (t : Int) m2 = GO_Mo_choose_2 fu ((t + 1 : Nat) : Int) m2 := fun m2 => by
        unfold GB_Mo_choose_47
        rw [p_w1 (by omega) (by omega), bi1]
        rfl
      have go : ∀ X, (if m 5 (40 * w + t) ≠ 2 then GO_Mo_choose_2 fu ((t + 1 : Nat) : Int) (wm m1 74 t (-1)) else q_bd (G_Mo_chosenBy (t : Int) (wm m1 74 t (-1))) fun r14 m15 => GO_Mo_choose_2 fu ((t + 1 : Nat) : Int) (wm m15 74 t r14)) = X → GO_Mo_choose_2 (fu + 1) (t : Int) m1 = X := by
        intro X hX
        show GL_Mo_choose_2 _ _ m1 = _
        unfold GL_Mo_choose_2
        rw [y 100 (by decide), e1, gd1 w3, Int.toNat_natCast, y 3 (by decide), hn, if_neg (by omega), gd1 (by omega), Int.toNat_natCast, bi1, s_g hw e11 (by omega), q_some, gd1 (by omega), Int.toNat_natCast, y1 5 (by decide)]
        simp only [nx, bi1]
        exact hX
      by_cases k2 : m 5 (40 * w + t) = 2
      · obtain ⟨m2, x1, x2⟩ := s_chosen h1 hw e11 t3 (n := n) (by rw [y1 3 (by decide)]; exact hn)
        rw [U_fr y1 rfl] at x1
        obtain ⟨m', z1, z2⟩ := ih (t + 1) fu (wm m2 74 t (ures (U m w t n))) (by omega) (by omega) ((y1.tr (x2.up (by decide))).tr (eM.up (l := [74]) (by repeat first | exact eM.rf _ _ | refine eM.wm ?_ (by decide) _ _) (by decide))) (fun t' ht' => by
          rw [wm_at]
          by_cases e : t' = t
          · rw [if_pos ⟨rfl, e⟩, e, if_pos k2]
          · rw [if_neg (by omega), x2 74 (by decide), wm_at, if_neg (by omega)]; exact hi t' (by omega))
        exact ⟨m', go _ (by rw [if_neg (fun z => z k2), x1, q_some2]; exact z1), z2⟩
      · obtain ⟨m', z1, z2⟩ := ih (t + 1) fu (wm m1 74 t (-1)) (by omega) (by omega) y1 (fun t' ht' => by
          rw [wm_at]
          by_cases e : t' = t
          · rw [if_pos ⟨rfl, e⟩, e, if_neg k2]
          · rw [if_neg (by omega)]; exact hi t' (by omega))
        exact ⟨m', go _ (by rw [if_pos k2]; exact z1), z2⟩
  obtain ⟨c1, a1, a2, a3⟩ := key1 n 0 3000 c (by omega) (by omega) (eC.rf _ _) (fun t ht => absurd ht (by omega))
  obtain ⟨c2, b1, b2, b3⟩ := key2 n 0 3000 c1 (by omega) (by omega) a2 (fun t ht => ⟨fun _ => Or.inl ⟨rfl, a3 t ht⟩, fun _ => a3 t ht⟩)
  obtain ⟨m', d1, d2, d3⟩ := key3 n 0 3000 m (by omega) (by omega) (eM.rf _ _) (fun t ht => absurd ht (by omega))
  refine ⟨c2, m', ?_, ?_, h.scr (lc := [19]) (lm := [173, 74]) b2 d2 rfl rfl rfl rfl, fun t ht => ?_, b2, d2⟩
  · unfold G_Step_letMergesChoose
    exact a1.trans b1
  · unfold G_Mo_choose
    exact d1
  · rw [d2 3 (by decide), hn] at ht
    have tn : t < n := by omega
    rw [d3 t tn]
    by_cases k2 : m 5 (40 * w + t) = 2
    · rw [if_pos k2]; exact ((b3 t tn).1 k2).res.symm
    · rw [if_neg k2]; exact (b3 t tn).2 k2
