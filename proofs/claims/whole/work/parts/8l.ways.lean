/-! ===== measureWays against spread ===== -/
/-- what holds of the values on the way -/
def OK (n : Nat) (M : Int) (D : Nat → Int) : Prop := (∀ r, 0 ≤ D r ∧ (D r = 1000000 ∨ D r ≤ M)) ∧ (∀ r, n ≤ r → D r = 1000000)
theorem OK.g {n : Nat} {M : Int} {D : Nat → Int} (h : OK n M D) {x : Int} (hx : 0 ≤ x ∧ x ≤ M + 8) {ts : List Nat} (ht : ∀ r, r ∈ ts → r < n) : OK n (M + 8) (xl x ts D) := by
  refine ⟨fun r => ?_, fun r hr => ?_⟩
  · rcases xl_or x ts D r with z | ⟨_, z⟩
    · rw [z]
      have := h.1 r
      omega
    · rw [z]
      omega
  · rw [xl_out (fun z => by have := ht r z; omega)]
    exact h.2 r hr
theorem OK.up {n : Nat} {M M' : Int} {D : Nat → Int} (h : OK n M D) (hM : M ≤ M') : OK n M' D := ⟨fun r => by have := h.1 r; omega, h.2⟩
theorem OK.d {n : Nat} {M : Int} {D : Nat → Int} {L : Nat → Int} {T : Nat → List Nat} (h : OK n M D) (hM : 0 ≤ M) (hL : ∀ g, 0 ≤ L g ∧ L g ≤ 8) (hT : ∀ g r, r ∈ T g → r < n) : ∀ k : Nat, OK n (M + 8 * (k : Int)) (xd L T k D) := by
  intro k
  induction k with
  | zero => exact h.up (by omega)
  | succ k ih =>
    show OK n _ (xg L T k (xd L T k D))
    unfold xg
    by_cases e : xd L T k D k = 1000000
    · rw [if_pos e]
      exact ih.up (by omega)
    · rw [if_neg e]
      have h1 := ih.1 k
      have h2 := hL k
      refine (ih.g (x := xd L T k D k + L k) (by omega) (hT k)).up (by omega)
theorem OK.k {n : Nat} {M : Int} {D : Nat → Int} {L : Nat → Int} {T : Nat → List Nat} (h : OK n M D) (hM : 0 ≤ M) (hn : n ≤ 40) (hL : ∀ g, 0 ≤ L g ∧ L g ≤ 8) (hT : ∀ g r, r ∈ T g → r < n) : ∀ k : Nat, OK n (M + 320 * (k : Int)) (xk L T n k D) := by
  intro k
  induction k with
  | zero => exact h.up (by omega)
  | succ k ih => exact (ih.d (by omega) hL hT n).up (by omega)
/-- one round of the class -/
theorem l_roundC {b : Nat} {c0 : h_C} {m : h_M} (h : RR b c0 m) {w : Nat} (hw : w < 3) (e1 : m 100 0 = (w : Int)) {n : Nat} (hn : m 3 w = (n : Int)) {Ds : Nat → Int} {M : Int} (hM : 0 ≤ M ∧ M < 800000) (hDs : OK n M Ds) (k20 : Nat → Int → Int → h_C → Option h_C) (v3 : Int) : ∀ (d g fu : Nat) (c : h_C) (ch : Int), g + d = n → d < fu → eC [2038] c0 c → cD c w (xd (LL m w) (TT c0 m w) g Ds) → (ch = 0 ∨ ch = 1) → (ch = 0 → xd (LL m w) (TT c0 m w) g Ds = Ds) → ∃ c' ch', GO_Works_measureWays_37 k20 fu w ch v3 (g : Int) c = k20 w ch' (p_w (v3 + 1)) c' ∧ eC [2038] c0 c' ∧ cD c' w (xd (LL m w) (TT c0 m w) n Ds) ∧ (ch' = 0 ∨ ch' = 1) ∧ (ch' = 0 → xd (LL m w) (TT c0 m w) n Ds = Ds) := by
  have f1 := (h.F.1 w)
  have hL : ∀ g, 0 ≤ LL m w g ∧ LL m w g ≤ 8 := fun g => by
    have := (h.F.2.1 (40 * w + g))
    unfold LL
    omega
  have hT : ∀ g r, r ∈ TT c0 m w g → r < n := fun g r hr => by
    have := TT_lt h hw e1 g r hr
    omega
  intro d
  induction d with
  | zero =>
    intro g fu c ch hd hf nn hD hch hc0
    obtain ⟨fu, rfl⟩ : ∃ g, fu = g + 1 := ⟨fu - 1, by omega⟩
    have eg : g = n := by omega
    subst eg
    refine ⟨c, ch, ?_, nn, hD, hch, hc0⟩
    show GL_Works_measureWays_37 _ _ _ _ _ _ c = _
    unfold GL_Works_measureWays_37
    rw [gd1 hw, nn 202 (by decide), f1.1, if_pos (by omega)]
    rfl
  | succ d ih =>
    intro g fu c ch hd hf nn hD hch hc0
    obtain ⟨fu, rfl⟩ : ∃ g, fu = g + 1 := ⟨fu - 1, by omega⟩
    have hg : (g : Int) < m 3 w := by omega
    have nC : ∀ (c2 : h_C) (ch2 : Int), GB_Works_measureWays_76 k20 (GO_Works_measureWays_37 k20 fu) w ch2 v3 (g : Int) c2 = GO_Works_measureWays_37 k20 fu w ch2 v3 ((g + 1 : Nat) : Int) c2 := fun c2 ch2 => by
      unfold GB_Works_measureWays_76
      rw [p_w1 (by omega) (by omega), bi1]
      rfl
    have hC : ∀ X, (if (xd (LL m w) (TT c0 m w) g Ds g) = 1000000 then GO_Works_measureWays_37 k20 fu w ch v3 ((g + 1 : Nat) : Int) c else q_bd (G_Works_goAhead w (g : Int) (xd (LL m w) (TT c0 m w) g Ds g) c) fun r9 c10 => if r9 = 0 then GO_Works_measureWays_37 k20 fu w ch v3 ((g + 1 : Nat) : Int) c10 else GO_Works_measureWays_37 k20 fu w 1 v3 ((g + 1 : Nat) : Int) c10) = X → GO_Works_measureWays_37 k20 (fu + 1) w ch v3 (g : Int) c = X := fun X hX => by
      show GL_Works_measureWays_37 _ _ _ _ _ _ c = _
      unfold GL_Works_measureWays_37
      rw [gd1 hw, nn 202 (by decide), f1.1, if_neg (by omega), gd1 (by omega), Int.toNat_natCast, hD g (by omega)]
      simp only [nC]
      exact hX
    have hok := (hDs.d hM.1 hL hT g).1 g
    by_cases e : xd (LL m w) (TT c0 m w) g Ds g = 1000000
    · have ex : xd (LL m w) (TT c0 m w) (g + 1) Ds = xd (LL m w) (TT c0 m w) g Ds := by
        show xg _ _ g (xd _ _ g Ds) = _
        unfold xg
        rw [if_pos e]
      obtain ⟨c', ch', z1, z2, z3, z4, z5⟩ := ih (g + 1) fu c ch (by omega) (by omega) nn (by rw [ex]; exact hD) hch (by rw [ex]; exact hc0)
      refine ⟨c', ch', hC _ (by rw [if_pos e]; exact z1), z2, z3, z4, z5⟩
    · obtain ⟨c1, ch1, y1, y2, y3, y4, y5⟩ := s_goAhead h hw e1 hg (v := xd (LL m w) (TT c0 m w) g Ds g) (by omega) nn hD
      have ex : xd (LL m w) (TT c0 m w) (g + 1) Ds = xl (xd (LL m w) (TT c0 m w) g Ds g + LL m w g) (TT c0 m w g) (xd (LL m w) (TT c0 m w) g Ds) := by
        show xg _ _ g (xd _ _ g Ds) = _
        unfold xg
        rw [if_neg e]
      rcases y4 with rfl | rfl
      · obtain ⟨c', ch', z1, z2, z3, z4, z5⟩ := ih (g + 1) fu c1 ch (by omega) (by omega) y2 (by rw [ex]; exact y3) hch (fun z => by rw [ex, y5 rfl]; exact hc0 z)
        refine ⟨c', ch', hC _ (by rw [if_neg e, y1, q_some2, if_pos rfl]; exact z1), z2, z3, z4, z5⟩
      · obtain ⟨c', ch', z1, z2, z3, z4, z5⟩ := ih (g + 1) fu c1 1 (by omega) (by omega) y2 (by rw [ex]; exact y3) (Or.inr rfl) (fun z => absurd z (by decide))
        refine ⟨c', ch', hC _ (by rw [if_neg e, y1, q_some2, if_neg (by decide)]; exact z1), z2, z3, z4, z5⟩
/-- one round of the reference -/
theorem l_roundM {b : Nat} {c : h_C} {m0 : h_M} (h : RR b c m0) {w : Nat} (hw : w < 3) (e1 : m0 100 0 = (w : Int)) {n : Nat} (hn : m0 3 w = (n : Int)) {Ds : Nat → Int} {M : Int} (hM : 0 ≤ M ∧ M < 800000) (hDs : OK n M Ds) (k29 : Int → h_M → Option h_M) (v2 : Int) : ∀ (d g fu : Nat) (m : h_M), g + d = n → d < fu → eM [173, 88] m0 m → mD m (xd (LL m0 w) (TT c m0 w) g Ds) → ∃ m', GO_Mo_spread_37 k29 fu v2 (g : Int) m = k29 (p_w (v2 + 1)) m' ∧ eM [173, 88] m0 m' ∧ mD m' (xd (LL m0 w) (TT c m0 w) n Ds) := by
  have f1 := (h.F.1 w)
  have hL : ∀ g, 0 ≤ LL m0 w g ∧ LL m0 w g ≤ 8 := fun g => by
    have := (h.F.2.1 (40 * w + g))
    unfold LL
    omega
  have hT : ∀ g r, r ∈ TT c m0 w g → r < n := fun g r hr => by
    have := TT_lt h hw e1 g r hr
    omega
  intro d
  induction d with
  | zero =>
    intro g fu m hd hf nn hD
    obtain ⟨fu, rfl⟩ : ∃ g, fu = g + 1 := ⟨fu - 1, by omega⟩
    have eg : g = n := by omega
    subst eg
    refine ⟨m, ?_, nn, hD⟩
    show GL_Mo_spread_37 _ _ _ _ m = _
    unfold GL_Mo_spread_37
    rw [nn 100 (by decide), e1, gd1 (by omega), Int.toNat_natCast, nn 3 (by decide), if_pos (by omega)]
    rfl
  | succ d ih =>
    intro g fu m hd hf nn hD
    obtain ⟨fu, rfl⟩ : ∃ g, fu = g + 1 := ⟨fu - 1, by omega⟩
    have hg : (g : Int) < m0 3 w := by omega
    have nM : ∀ (m2 : h_M), GB_Mo_spread_70 k29 (GO_Mo_spread_37 k29 fu) v2 (g : Int) m2 = GO_Mo_spread_37 k29 fu v2 ((g + 1 : Nat) : Int) m2 := fun m2 => by
      unfold GB_Mo_spread_70
      rw [p_w1 (by omega) (by omega), bi1]
      rfl
    have hok := (hDs.d hM.1 hL hT g).1 g
    have h88 := hD g (by omega)
    have hM' : ∀ X, (if (xd (LL m0 w) (TT c m0 w) g Ds g) = 1000000 then GO_Mo_spread_37 k29 fu v2 ((g + 1 : Nat) : Int) m else q_bv (G_Mo_ahead (g : Int) (xd (LL m0 w) (TT c m0 w) g Ds g) m) fun m9 => GO_Mo_spread_37 k29 fu v2 ((g + 1 : Nat) : Int) m9) = X → GO_Mo_spread_37 k29 (fu + 1) v2 (g : Int) m = X := fun X hX => by
      show GL_Mo_spread_37 _ _ _ _ m = _
      unfold GL_Mo_spread_37
      rw [nn 100 (by decide), e1, gd1 (by omega), Int.toNat_natCast, nn 3 (by decide), if_neg (by omega), gd1 (by omega), Int.toNat_natCast, h88]
      simp only [nM]
      rw [← hX]
      by_cases e : xd (LL m0 w) (TT c m0 w) g Ds g = 1000000
      · simp only [if_pos e]
        rw [if_pos (by decide)]
      · simp only [if_neg e]
        rw [if_neg (by omega)]
    by_cases e : xd (LL m0 w) (TT c m0 w) g Ds g = 1000000
    · have ex : xd (LL m0 w) (TT c m0 w) (g + 1) Ds = xd (LL m0 w) (TT c m0 w) g Ds := by
        show xg _ _ g (xd _ _ g Ds) = _
        unfold xg
        rw [if_pos e]
      obtain ⟨m', z1, z2, z3⟩ := ih (g + 1) fu m (by omega) (by omega) nn (by rw [ex]; exact hD)
      exact ⟨m', hM' _ (by rw [if_pos e]; exact z1), z2, z3⟩
    · obtain ⟨m1, y1, y2, y3⟩ := s_ahead h hw e1 hg (v := xd (LL m0 w) (TT c m0 w) g Ds g) (by omega) nn hD (fun r => ((hDs.d hM.1 hL hT g).1 r).1)
      have ex : xd (LL m0 w) (TT c m0 w) (g + 1) Ds = xl (xd (LL m0 w) (TT c m0 w) g Ds g + LL m0 w g) (TT c m0 w g) (xd (LL m0 w) (TT c m0 w) g Ds) := by
        show xg _ _ g (xd _ _ g Ds) = _
        unfold xg
        rw [if_neg e]
      obtain ⟨m', z1, z2, z3⟩ := ih (g + 1) fu m1 (by omega) (by omega) y2 (by rw [ex]; exact y3)
      exact ⟨m', hM' _ (by rw [if_neg e, y1, q_some]; exact z1), z2, z3⟩
/-- all rounds of the class: as many as gears, or until nothing changes -/
theorem l_waysC {b : Nat} {c0 : h_C} {m : h_M} (h : RR b c0 m) {w : Nat} (hw : w < 3) (e1 : m 100 0 = (w : Int)) {n : Nat} (hn : m 3 w = (n : Int)) {D0 : Nat → Int} (hD0 : OK n 8 D0) : ∀ (d k fu : Nat) (c : h_C) (ch : Int), k + d = n → d < fu → eC [2038] c0 c → cD c w (xk (LL m w) (TT c0 m w) n k D0) → (ch = 0 ∨ ch = 1) → (ch = 0 → 1 ≤ k ∧ xk (LL m w) (TT c0 m w) n k D0 = xk (LL m w) (TT c0 m w) n (k - 1) D0) → ∃ c' K, GO_Works_measureWays_20 fu w ch (k : Int) c = some c' ∧ eC [2038] c0 c' ∧ cD c' w (xk (LL m w) (TT c0 m w) n K D0) ∧ K ≤ n ∧ (K = n ∨ (1 ≤ K ∧ xk (LL m w) (TT c0 m w) n K D0 = xk (LL m w) (TT c0 m w) n (K - 1) D0)) := by
  have f1 := (h.F.1 w)
  have hL : ∀ g, 0 ≤ LL m w g ∧ LL m w g ≤ 8 := fun g => by
    have := (h.F.2.1 (40 * w + g))
    unfold LL
    omega
  have hT : ∀ g r, r ∈ TT c0 m w g → r < n := fun g r hr => by
    have := TT_lt h hw e1 g r hr
    omega
  intro d
  induction d with
  | zero =>
    intro k fu c ch hd hf nn hD hch hc0
    obtain ⟨fu, rfl⟩ : ∃ g, fu = g + 1 := ⟨fu - 1, by omega⟩
    refine ⟨c, k, ?_, nn, hD, by omega, Or.inl (by omega)⟩
    show GL_Works_measureWays_20 _ _ _ _ c = _
    unfold GL_Works_measureWays_20
    rw [gd1 hw, nn 202 (by decide), f1.1, if_pos (by omega)]
  | succ d ih =>
    intro k fu c ch hd hf nn hD hch hc0
    obtain ⟨fu, rfl⟩ : ∃ g, fu = g + 1 := ⟨fu - 1, by omega⟩
    by_cases e : ch = 0
    · refine ⟨c, k, ?_, nn, hD, by omega, Or.inr (hc0 e)⟩
      show GL_Works_measureWays_20 _ _ _ _ c = _
      unfold GL_Works_measureWays_20
      rw [gd1 hw, nn 202 (by decide), f1.1, if_neg (by omega), if_pos e]
    · have hok := hD0.k (by omega) (by omega) hL hT k
      obtain ⟨c1, ch1, y1, y2, y3, y4, y5⟩ := l_roundC h hw e1 hn (M := 8 + 320 * (k : Int)) (by omega) hok (GO_Works_measureWays_20 fu) (k : Int) n 0 3000 c 0 (by omega) (by omega) nn hD (Or.inl rfl) (fun _ => rfl)
      obtain ⟨c', K, z1, z2, z3, z4, z5⟩ := ih (k + 1) fu c1 ch1 (by omega) (by omega) y2 y3 y4 (fun z => ⟨by omega, y5 z⟩)
      refine ⟨c', K, ?_, z2, z3, z4, z5⟩
      show GL_Works_measureWays_20 _ _ _ _ c = _
      unfold GL_Works_measureWays_20
      rw [gd1 hw, nn 202 (by decide), f1.1, if_neg (by omega), if_neg e, show GO_Works_measureWays_37 (GO_Works_measureWays_20 fu) 3000 w 0 (k : Int) 0 c = _ from y1, p_w1 (by omega) (by omega)]
      exact z1
theorem l_waysM {b : Nat} {c : h_C} {m0 : h_M} (h : RR b c m0) {w : Nat} (hw : w < 3) (e1 : m0 100 0 = (w : Int)) {n : Nat} (hn : m0 3 w = (n : Int)) {D0 : Nat → Int} (hD0 : OK n 8 D0) : ∀ (d k fu : Nat) (m : h_M), k + d = 41 → d < fu → eM [173, 88] m0 m → mD m (xk (LL m0 w) (TT c m0 w) n k D0) → ∃ m', GO_Mo_spread_29 fu (k : Int) m = some m' ∧ eM [173, 88] m0 m' ∧ mD m' (xk (LL m0 w) (TT c m0 w) n 41 D0) := by
  have f1 := (h.F.1 w)
  have hL : ∀ g, 0 ≤ LL m0 w g ∧ LL m0 w g ≤ 8 := fun g => by
    have := (h.F.2.1 (40 * w + g))
    unfold LL
    omega
  have hT : ∀ g r, r ∈ TT c m0 w g → r < n := fun g r hr => by
    have := TT_lt h hw e1 g r hr
    omega
  intro d
  induction d with
  | zero =>
    intro k fu m hd hf nn hD
    obtain ⟨fu, rfl⟩ : ∃ g, fu = g + 1 := ⟨fu - 1, by omega⟩
    have ek : k = 41 := by omega
    subst ek
    refine ⟨m, ?_, nn, hD⟩
    show GL_Mo_spread_29 _ _ m = _
    unfold GL_Mo_spread_29
    rw [if_pos (by omega)]
  | succ d ih =>
    intro k fu m hd hf nn hD
    obtain ⟨fu, rfl⟩ : ∃ g, fu = g + 1 := ⟨fu - 1, by omega⟩
    have hok := hD0.k (by omega) (by omega) hL hT k
    obtain ⟨m1, y1, y2, y3⟩ := l_roundM h hw e1 hn (M := 8 + 320 * (k : Int)) (by omega) hok (GO_Mo_spread_29 fu) (k : Int) n 0 3000 m (by omega) (by omega) nn hD
    obtain ⟨m', z1, z2, z3⟩ := ih (k + 1) fu m1 (by omega) (by omega) y2 y3
    refine ⟨m', ?_, z2, z3⟩
    show GL_Mo_spread_29 _ _ m = _
    unfold GL_Mo_spread_29
    rw [if_neg (by omega), show GO_Mo_spread_37 (GO_Mo_spread_29 fu) 3000 (k : Int) 0 m = _ from y1, p_w1 (by omega) (by omega)]
    exact z1
theorem l_wipe {w : Nat} (v1 : Int) : ∀ (d k fu : Nat) (m : h_M), k + d = 40 → d < fu → (∀ r, r < k → m 88 r = -1) → ∃ m', GO_Mo_spread_2 fu v1 (k : Int) m = (q_bv (G_Mo_ahead v1 0 m') fun m4 => GO_Mo_spread_29 3000 0 m4) ∧ eM [88] m m' ∧ (∀ r, r < 40 → m' 88 r = -1) := by
  intro d
  induction d with
  | zero =>
    intro k fu m hd hf hk
    obtain ⟨fu, rfl⟩ : ∃ g, fu = g + 1 := ⟨fu - 1, by omega⟩
    refine ⟨m, ?_, eM.rf _ _, fun r hr => hk r (by omega)⟩
    show GL_Mo_spread_2 _ _ _ m = _
    unfold GL_Mo_spread_2
    rw [if_pos (by omega)]
  | succ d ih =>
    intro k fu m hd hf hk
    obtain ⟨fu, rfl⟩ : ∃ g, fu = g + 1 := ⟨fu - 1, by omega⟩
    obtain ⟨m', y1, y2, y3⟩ := ih (k + 1) fu (wm m 88 k (-1)) (by omega) (by omega) (fun r hr => by
      rw [wm_at]
      by_cases e : r = k
      · rw [if_pos ⟨rfl, e⟩]
      · rw [if_neg (fun z => e z.2)]; exact hk r (by omega))
    refine ⟨m', ?_, eM.tr (by repeat first | exact eM.rf _ _ | refine eM.wm ?_ (by decide) _ _) y2, y3⟩
    rw [← y1]
    show GL_Mo_spread_2 _ _ _ m = _
    unfold GL_Mo_spread_2
    rw [if_neg (by omega), gd1 (by omega), Int.toNat_natCast, p_w1 (by omega) (by omega)]
    rfl
/-- both end with the same values -/
theorem s_ways {b : Nat} {c : h_C} {m : h_M} (h : RR b c m) {w g : Nat} (hw : w < 3) (e1 : m 100 0 = (w : Int)) (hg : (g : Int) < m 3 w) : ∃ c' m' D, G_Works_measureWays w (g : Int) c = some c' ∧ G_Mo_spread (g : Int) m = some m' ∧ eC [2038] c c' ∧ eM [173, 88] m m' ∧ cD c' w D ∧ mD m' D ∧ (∀ r, 0 ≤ D r) ∧ (∀ r : Nat, m 3 w ≤ (r : Int) → D r = 1000000) := by
  have f1 := (h.F.1 w)
  obtain ⟨n, hn⟩ : ∃ n : Nat, m 3 w = (n : Int) := ⟨(m 3 w).toNat, by omega⟩
  have hL : ∀ g, 0 ≤ LL m w g ∧ LL m w g ≤ 8 := fun g => by
    have := (h.F.2.1 (40 * w + g))
    unfold LL
    omega
  have hT : ∀ g r, r ∈ TT c m w g → r < n := fun g r hr => by
    have := TT_lt h hw e1 g r hr
    omega
  have hL1 := TT_len h hw
  have n40 : n ≤ 40 := by omega
  -- the first values
  have o0 : OK n 0 (fun _ => 1000000) := ⟨fun r => ⟨by show (0 : Int) ≤ 1000000; decide, Or.inl rfl⟩, fun r _ => rfl⟩
  have hLg := hL g
  have o1 : OK n 8 (xl (0 + LL m w g) (TT c m w g) (fun _ => 1000000)) := by
    have := o0.g (x := 0 + LL m w g) (by omega) (hT g)
    exact this.up (by omega)
  -- class
  have nc : eC [2038] c (sr c 2038 w (fl (c 2038 w) 40 1000000)) := (by repeat first | exact eC.rf _ _ | refine eC.wc ?_ (by decide) _ _ _ | refine eC.sr ?_ (by decide) _ _)
  have hc0 : cD (sr c 2038 w (fl (c 2038 w) 40 1000000)) w (fun _ => 1000000) := fun r hr => by
    rw [sr_at, if_pos ⟨rfl, rfl⟩, fl_at, if_pos hr]
  obtain ⟨c1, ch1, a1, a2, a3, _⟩ := s_goAhead h hw e1 hg (v := 0) (by omega) nc hc0
  obtain ⟨c2, K, b1, b2, b3, b4, b5⟩ := l_waysC h hw e1 hn o1 n 0 3000 c1 1 (by omega) (by omega) a2 a3 (Or.inr rfl) (fun z => absurd z (by decide))
  -- reference
  obtain ⟨m1, d1, d2, d3⟩ := l_wipe (w := w) (g : Int) 40 0 3000 m (by omega) (by omega) (fun r hr => by omega)
  have hm1 : mD m1 (fun _ => 1000000) := fun r hr => by rw [d3 r hr]; rfl
  obtain ⟨m2, i1, i2, i3⟩ := s_ahead h hw e1 hg (v := 0) (by omega) (d2.up (by decide)) hm1 (fun r => by show (0 : Int) ≤ 1000000; decide)
  obtain ⟨m3, j1, j2, j3⟩ := l_waysM h hw e1 hn o1 41 0 3000 m2 (by omega) (by omega) i2 i3
  -- rest
  have gv : xGV (LL m w) (TT c m w) n g (xl (0 + LL m w g) (TT c m w g) (fun _ => 1000000)) := fun r hr => by
    rcases xl_or (0 + LL m w g) (TT c m w g) (fun _ => 1000000) r with z | ⟨z1, z2⟩
    · exact absurd z hr
    · exact Or.inl ⟨z1, by rw [z2]; omega⟩
  have conv := xk_conv hL1 hT (fun r => (o1.1 r).1) (fun r => by have := o1.1 r; omega) gv (fun r hr => by have := xl_tgt (0 + LL m w g) (TT c m w g) (fun _ => 1000000) r hr; omega)
  have same : xk (LL m w) (TT c m w) n 41 (xl (0 + LL m w g) (TT c m w g) (fun _ => 1000000)) = xk (LL m w) (TT c m w) n K (xl (0 + LL m w g) (TT c m w g) (fun _ => 1000000)) := by
    rcases b5 with e | ⟨k1, e⟩
    · rw [e]
      have := xk_fix conv (41 - n)
      rwa [show n + (41 - n) = 41 by omega] at this
    · have hfix : xd (LL m w) (TT c m w) n (xk (LL m w) (TT c m w) n (K - 1) (xl (0 + LL m w g) (TT c m w g) (fun _ => 1000000))) = xk (LL m w) (TT c m w) n (K - 1) (xl (0 + LL m w g) (TT c m w g) (fun _ => 1000000)) := by
        have t : xk (LL m w) (TT c m w) n (K - 1 + 1) (xl (0 + LL m w g) (TT c m w g) (fun _ => 1000000)) = xd (LL m w) (TT c m w) n (xk (LL m w) (TT c m w) n (K - 1) (xl (0 + LL m w g) (TT c m w g) (fun _ => 1000000))) := rfl
        rw [show K - 1 + 1 = K by omega] at t
        rw [← t]
        exact e
      have t1 := xk_fix hfix (41 - (K - 1))
      rw [show K - 1 + (41 - (K - 1)) = 41 by omega] at t1
      rw [t1, e]
  have okK := o1.k (by omega) n40 hL hT K
  refine ⟨c2, m3, _, ?_, ?_, b2, j2, b3, by rw [← same]; exact j3, fun r => (okK.1 r).1, fun r hr => okK.2 r (by omega)⟩
  · unfold G_Works_measureWays
    rw [gd1 hw, bi1, a1, q_some2]
    exact b1
  · unfold G_Mo_spread
    rw [show GO_Mo_spread_2 3000 (g : Int) 0 m = _ from d1, i1, q_some]
    exact j1
