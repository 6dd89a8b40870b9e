/-- the label, in both -/
def LB (c : h_C) (m : h_M) (w pl q : Nat) : Prop := m 31 q = c 111 (31 * w + pl) 0 ∧ -1 ≤ m 31 q ∧ m 31 q ≤ 12 ∧ ∀ k : Nat, k < 12 → (k : Int) < m 31 q → m 32 (12 * q + k) = c 2015 (31 * w + pl) k ∧ 0 ≤ m 32 (12 * q + k) ∧ m 32 (12 * q + k) < 256
theorem PO.lb {b : Nat} {c : h_C} {m : h_M} {w pl q : Nat} (h : PO b c m w pl q) : LB c m w pl q := h.2.2.2.2.2.2
theorem s_askY {q v : Nat} {m : h_M} (hq : q < 2001) (hv : v < 12) (h : (v : Int) < m 31 q) : G_Mo_asked (q : Int) (v : Int) m = some (m 32 (12 * q + v), m) := by
  unfold G_Mo_asked
  rw [gd1 (by omega), Int.toNat_natCast, if_neg (by omega), if_pos h, p_w1 (x := 12 * (q : Int)) (by omega) (by omega), p_w1 (by omega) (by omega), gd1 (by omega), show (12 * (q : Int) + (v : Int)).toNat = 12 * q + v by omega]
theorem s_askN {q v : Nat} {m : h_M} (hq : q < 2001) (h0 : 0 ≤ m 31 q) (h : m 31 q ≤ (v : Int)) : G_Mo_asked (q : Int) (v : Int) m = some (-1, wm m 178 0 3) := by
  unfold G_Mo_asked GB_Mo_asked_19
  rw [gd1 (by omega), Int.toNat_natCast, if_neg (by omega), if_neg (by omega), gd1 (by omega), if_pos h0, bi1]
theorem s_ask0 {q : Nat} {m : h_M} (hq : q < 2001) (h0 : m 31 q < 0) (v : Int) : G_Mo_asked (q : Int) v m = some (-1, wm m 178 0 1) := by
  unfold G_Mo_asked GB_Mo_asked_19
  rw [gd1 (by omega), Int.toNat_natCast, if_pos h0, gd1 (by omega), if_neg (by omega), bi1]
def dC : List Nat := [900, 901, 902, 903, 2041]
def dM : List Nat := [175, 176, 177, 178, 79]
/-- what a reading comes to, in both -/
def RD (r rr : Int) (c : h_C) (m : h_M) : Prop := (∃ f : Int, (f = 1 ∨ f = 3) ∧ r = -10 - f ∧ m 178 0 = f ∧ rr = 0) ∨ (r = 0 ∧ c 900 0 0 = 1 ∧ m 178 0 = 0 ∧ rr = 0) ∨ (r = 0 ∧ c 900 0 0 = 0 ∧ m 178 0 = 0 ∧ rr = 1 ∧ (c 901 0 0 = m 175 0 ∧ 0 ≤ m 175 0) ∧ (c 902 0 0 = m 176 0 ∧ 0 ≤ m 176 0) ∧ (c 903 0 0 = m 177 0 ∧ 0 ≤ m 177 0))
theorem s_formA {c : h_C} {m : h_M} {w pl q : Nat} (hw : w < 3) (p1 : 1 ≤ pl) (p30 : pl ≤ 30) (hq : q < 2001) (hp : LB c m w pl q) (h1 : 1 ≤ m 31 q) (h178 : m 178 0 = 0) : ∃ r rr c' m', G_Reading_readFormA (31 * w + pl) c = some (r, c') ∧ GO_Mo_reads_20 3000 (q : Int) 1 m = some (rr, m') ∧ eC dC c c' ∧ eM dM m m' ∧ RD r rr c' m' := by
  have hvp : vP (31 * w + pl) := ⟨by omega, by omega⟩
  obtain ⟨e31, n1, n12, lab⟩ := hp
  have key : ∀ (d v fu : Nat) (c1 : h_C) (m1 : h_M), v + d = 8 → 1 ≤ v → d < fu → eC [2041] c c1 → eM [79] m m1 → (∀ k : Nat, 1 ≤ k → k < v → c1 2041 0 k = m1 79 k ∧ 0 ≤ m1 79 k ∧ m1 79 k ≤ 9) → ∃ r rr c' m', GO_Reading_readFormA_2 fu (31 * w + pl) (v : Int) c1 = some (r, c') ∧ GO_Mo_reads_20 fu (q : Int) (v : Int) m1 = some (rr, m') ∧ eC dC c c' ∧ eM dM m m' ∧ RD r rr c' m' := by
    intro d
    induction d with
    | zero =>
      intro v fu c1 m1 hv _ hf y1 y2 hD
      obtain ⟨fu, rfl⟩ : ∃ g, fu = g + 1 := ⟨fu - 1, by omega⟩
      obtain rfl : v = 8 := by omega
      obtain ⟨a1, a2, a3⟩ := hD 1 (by omega) (by omega)
      obtain ⟨b1, b2, b3⟩ := hD 2 (by omega) (by omega)
      obtain ⟨c1', c2, c3⟩ := hD 3 (by omega) (by omega)
      obtain ⟨d1, d2, d3⟩ := hD 4 (by omega) (by omega)
      obtain ⟨e1, e2, e3⟩ := hD 5 (by omega) (by omega)
      obtain ⟨f1, f2, f3⟩ := hD 6 (by omega) (by omega)
      obtain ⟨g1, g2, g3⟩ := hD 7 (by omega) (by omega)
      have hM : GO_Mo_reads_20 (fu + 1) (q : Int) (8 : Nat) m1 = (if p_rem (3 * m1 79 1 + m1 79 2 + 3 * m1 79 3 + m1 79 4 + 3 * m1 79 5 + m1 79 6 + m1 79 7) 10 ≠ 0 then some (0, wm (wm (wm m1 175 0 (10 * m1 79 1 + m1 79 2)) 176 0 (100 * m1 79 3 + 10 * m1 79 4 + m1 79 5)) 177 0 (m1 79 6)) else some (1, wm (wm (wm m1 175 0 (10 * m1 79 1 + m1 79 2)) 176 0 (100 * m1 79 3 + 10 * m1 79 4 + m1 79 5)) 177 0 (m1 79 6))) := by
        show GL_Mo_reads_20 _ _ _ m1 = _
        unfold GL_Mo_reads_20
        rw [if_pos (by decide), gd1 (by decide), gd1 (by decide), bi1, gd1 (by decide), gd1 (by decide), gd1 (by decide), bi1, gd1 (by decide), bi1, gd1 (by decide)]
        simp only [show (1 : Int).toNat = 1 from rfl, show (2 : Int).toNat = 2 from rfl, show (3 : Int).toNat = 3 from rfl, show (4 : Int).toNat = 4 from rfl, show (5 : Int).toNat = 5 from rfl, show (6 : Int).toNat = 6 from rfl, show (7 : Int).toNat = 7 from rfl, wm_at, Nat.reduceEqDiff, false_and, if_false]
        simp (disch := omega) only [p_w1]
      have hC : ∀ z : Int, (z = 0 ∨ z = 1) → GB_Reading_readFormA_133 z c1 = some (0, wc (wc (wc (wc c1 900 0 0 z) 901 0 0 (10 * m1 79 1 + m1 79 2)) 902 0 0 (100 * m1 79 3 + 10 * m1 79 4 + m1 79 5)) 903 0 0 (m1 79 6)) := by
        intro z hz
        unfold GB_Reading_readFormA_133
        rw [gd1 hz, bi1, gd1 (by decide), gd1 (by decide), bi1, gd1 (by decide), gd1 (by decide), gd1 (by decide), bi1, gd1 (by decide), bi1]
        simp only [show (1 : Int).toNat = 1 from rfl, show (2 : Int).toNat = 2 from rfl, show (3 : Int).toNat = 3 from rfl, show (4 : Int).toNat = 4 from rfl, show (5 : Int).toNat = 5 from rfl, show (6 : Int).toNat = 6 from rfl, wc_at, Nat.reduceEqDiff, false_and, if_false, a1, b1, c1', d1, e1, f1]
        simp (disch := omega) only [p_w1]
      have hC' : GO_Reading_readFormA_2 (fu + 1) (31 * w + pl) (8 : Nat) c1 = (if p_rem (3 * m1 79 1 + m1 79 2 + 3 * m1 79 3 + m1 79 4 + 3 * m1 79 5 + m1 79 6 + m1 79 7) 10 = 0 then GB_Reading_readFormA_133 0 c1 else GB_Reading_readFormA_133 1 c1) := by
        show GL_Reading_readFormA_2 _ _ _ c1 = _
        unfold GL_Reading_readFormA_2
        rw [if_pos (by decide), gd1 (by decide), gd1 (by decide), gd1 (by decide), gd1 (by decide), gd1 (by decide), gd1 (by decide), bi1, gd1 (by decide)]
        simp only [show (1 : Int).toNat = 1 from rfl, show (2 : Int).toNat = 2 from rfl, show (3 : Int).toNat = 3 from rfl, show (4 : Int).toNat = 4 from rfl, show (5 : Int).toNat = 5 from rfl, show (6 : Int).toNat = 6 from rfl, show (7 : Int).toNat = 7 from rfl, a1, b1, c1', d1, e1, f1, g1]
        simp (disch := omega) only [p_w1]
        rw [show 3 * (m1 79 1 + m1 79 3 + m1 79 5) + m1 79 2 + m1 79 4 + m1 79 6 + m1 79 7 = 3 * m1 79 1 + m1 79 2 + 3 * m1 79 3 + m1 79 4 + 3 * m1 79 5 + m1 79 6 + m1 79 7 by omega]
      have e178 : m1 178 0 = 0 := by rw [y2 178 (by decide)]; exact h178
      by_cases z : p_rem (3 * m1 79 1 + m1 79 2 + 3 * m1 79 3 + m1 79 4 + 3 * m1 79 5 + m1 79 6 + m1 79 7) 10 = 0
      · refine ⟨0, 1, _, _, by rw [hC', if_pos z, hC 0 (Or.inl rfl)], by rw [hM, if_neg (by simp [z])], (y1.up (by decide)).tr (eC.up (l := [900, 901, 902, 903]) (by repeat first | exact eC.rf _ _ | refine eC.wc ?_ (by decide) _ _ _ | refine eC.sr ?_ (by decide) _ _) (by decide)), (y2.up (by decide)).tr (eM.up (l := [175, 176, 177]) (by repeat first | exact eM.rf _ _ | refine eM.wm ?_ (by decide) _ _) (by decide)), Or.inr (Or.inr ?_)⟩
        simp [wc_at, wm_at, e178]
        omega
      · refine ⟨0, 0, _, _, by rw [hC', if_neg z, hC 1 (Or.inr rfl)], by rw [hM, if_pos z], (y1.up (by decide)).tr (eC.up (l := [900, 901, 902, 903]) (by repeat first | exact eC.rf _ _ | refine eC.wc ?_ (by decide) _ _ _ | refine eC.sr ?_ (by decide) _ _) (by decide)), (y2.up (by decide)).tr (eM.up (l := [175, 176, 177]) (by repeat first | exact eM.rf _ _ | refine eM.wm ?_ (by decide) _ _) (by decide)), Or.inr (Or.inl ?_)⟩
        simp [wc_at, wm_at, e178]
    | succ d ih =>
      intro v fu c1 m1 hv hv1 hf y1 y2 hD
      obtain ⟨fu, rfl⟩ : ∃ g, fu = g + 1 := ⟨fu - 1, by omega⟩
      have x31 : m1 31 = m 31 := y2 31 (by decide)
      have x32 : m1 32 = m 32 := y2 32 (by decide)
      have x111 : c1 111 = c 111 := y1 111 (by decide)
      have x2015 : c1 2015 = c 2015 := y1 2015 (by decide)
      have e178 : m1 178 0 = 0 := by rw [y2 178 (by decide)]; exact h178
      by_cases s : (v : Int) < m 31 q
      case neg =>
        refine ⟨-13, 0, c1, wm m1 178 0 3, ?_, ?_, y1.up (by decide), (y2.up (by decide)).tr (eM.up (l := [178]) (by repeat first | exact eM.rf _ _ | refine eM.wm ?_ (by decide) _ _) (by decide)), Or.inl ⟨3, Or.inr rfl, rfl, by simp [wm_at], rfl⟩⟩
        · show GL_Reading_readFormA_2 _ _ _ c1 = _
          unfold GL_Reading_readFormA_2
          rw [if_neg (by omega), gd1 hvp, x111, ← e31, if_neg s]
        · show GL_Mo_reads_20 _ _ _ m1 = _
          unfold GL_Mo_reads_20
          rw [if_neg (by omega), s_askN hq (by rw [x31]; omega) (by rw [x31]; omega), q_some2, if_pos (by decide)]
      obtain ⟨lb, l0, l1⟩ := lab v (by omega) s
      have hC : GO_Reading_readFormA_2 (fu + 1) (31 * w + pl) (v : Int) c1 = (if m 32 (12 * q + v) - 48 < 0 then GB_Reading_readFormA_54 (wc c1 2041 0 v (m 32 (12 * q + v) - 48)) else if m 32 (12 * q + v) - 48 ≤ 9 then GO_Reading_readFormA_2 fu (31 * w + pl) ((v + 1 : Nat) : Int) (wc c1 2041 0 v (m 32 (12 * q + v) - 48)) else GB_Reading_readFormA_54 (wc c1 2041 0 v (m 32 (12 * q + v) - 48))) := by
        show GL_Reading_readFormA_2 _ _ _ c1 = _
        unfold GL_Reading_readFormA_2
        have r1 : (wc c1 2041 0 v (m 32 (12 * q + v) - 48)) 2041 0 v = m 32 (12 * q + v) - 48 := by rw [wc_at, if_pos ⟨rfl, rfl, rfl⟩]
        rw [if_neg (by omega), gd1 hvp, x111, ← e31, if_pos s, gd1 (by omega), gd1 (by omega), Int.toNat_natCast, x2015, ← lb, p_w1 (x := m 32 (12 * q + v) - 48) (by omega) (by omega), bi1, r1, p_w1 (x := (v : Int) + 1) (by omega) (by omega), bi1]
        rfl
      have hM : GO_Mo_reads_20 (fu + 1) (q : Int) (v : Int) m1 = (if m 32 (12 * q + v) < 48 then some (0, m1) else if m 32 (12 * q + v) ≤ 57 then GO_Mo_reads_20 fu (q : Int) ((v + 1 : Nat) : Int) (wm m1 79 v (m 32 (12 * q + v) - 48)) else some (0, m1)) := by
        show GL_Mo_reads_20 _ _ _ m1 = _
        unfold GL_Mo_reads_20
        rw [if_neg (by omega), s_askY hq (by omega) (by rw [x31]; exact s), q_some2, x32, gd1 (by omega), Int.toNat_natCast, p_w1 (x := m 32 (12 * q + v) - 48) (by omega) (by omega), bi1, p_w1 (x := (v : Int) + 1) (by omega) (by omega), bi1]
        rfl
      have n1 : eC [2041] c1 (wc c1 2041 0 v (m 32 (12 * q + v) - 48)) := (by repeat first | exact eC.rf _ _ | refine eC.wc ?_ (by decide) _ _ _ | refine eC.sr ?_ (by decide) _ _)
      have n2 : eM [79] m1 (wm m1 79 v (m 32 (12 * q + v) - 48)) := (by repeat first | exact eM.rf _ _ | refine eM.wm ?_ (by decide) _ _)
      have bad : ∃ r rr c' m', GB_Reading_readFormA_54 (wc c1 2041 0 v (m 32 (12 * q + v) - 48)) = some (r, c') ∧ some ((0 : Int), m1) = some (rr, m') ∧ eC dC c c' ∧ eM dM m m' ∧ RD r rr c' m' := by
        refine ⟨0, 0, _, m1, by unfold GB_Reading_readFormA_54; rw [bi1], rfl, ((y1.tr n1).up (by decide)).tr (eC.up (l := [900]) (by repeat first | exact eC.rf _ _ | refine eC.wc ?_ (by decide) _ _ _ | refine eC.sr ?_ (by decide) _ _) (by decide)), y2.up (by decide), Or.inr (Or.inl ⟨rfl, by simp [wc_at], e178, rfl⟩)⟩
      rw [hC, hM]
      by_cases z1 : m 32 (12 * q + v) < 48
      · simp only [if_pos z1, if_pos (show m 32 (12 * q + v) - 48 < 0 by omega)]
        exact bad
      simp only [if_neg z1, if_neg (show ¬ (m 32 (12 * q + v) - 48 < 0) by omega)]
      by_cases z2 : m 32 (12 * q + v) ≤ 57
      case neg =>
        simp only [if_neg z2, if_neg (show ¬ (m 32 (12 * q + v) - 48 ≤ 9) by omega)]
        exact bad
      simp only [if_pos z2, if_pos (show m 32 (12 * q + v) - 48 ≤ 9 by omega)]
      refine ih (v + 1) fu _ _ (by omega) (by omega) (by omega) (y1.tr n1) (y2.tr n2) (fun k k1 k2 => ?_)
      simp only [wc_at, wm_at]
      by_cases ek : k = v
      · subst ek
        simp
        omega
      · simpa [ek] using hD k k1 (by omega)
  obtain ⟨r, rr, c', m', z⟩ := key 7 1 3000 c m rfl (by omega) (by omega) (eC.rf _ _) (eM.rf _ _) (fun k k1 k2 => absurd k2 (by omega))
  exact ⟨r, rr, c', m', z⟩
theorem s_formB {c : h_C} {m : h_M} {w pl q : Nat} (hw : w < 3) (p1 : 1 ≤ pl) (p30 : pl ≤ 30) (hq : q < 2001) (hp : LB c m w pl q) (h1 : 1 ≤ m 31 q) (h178 : m 178 0 = 0) : ∃ r rr c' m', G_Reading_readFormB (31 * w + pl) c = some (r, c') ∧ GO_Mo_reads_206 3000 (q : Int) 1 m = some (rr, m') ∧ eC dC c c' ∧ eM dM m m' ∧ RD r rr c' m' := by
  have hvp : vP (31 * w + pl) := ⟨by omega, by omega⟩
  obtain ⟨e31, n1, n12, lab⟩ := hp
  have key : ∀ (d v fu : Nat) (m1 : h_M), v + d = 6 → 1 ≤ v → d < fu → eM [79] m m1 → (∀ k : Nat, 1 ≤ k → k < v → m1 79 k = m 32 (12 * q + k)) → (v : Int) ≤ m 31 q → (6 ≤ m 31 q ∧ ∃ f1 m', GO_Mo_reads_206 fu (q : Int) (v : Int) m1 = GO_Mo_reads_206 (f1 + 1) (q : Int) (6 : Nat) m' ∧ eM [79] m m' ∧ (∀ k : Nat, 1 ≤ k → k < 6 → m' 79 k = m 32 (12 * q + k))) ∨ (m 31 q < 6 ∧ ∃ m', GO_Mo_reads_206 fu (q : Int) (v : Int) m1 = some (0, m') ∧ m' 178 0 = 3 ∧ eM dM m m') := by
    intro d
    induction d with
    | zero =>
      intro v fu m1 hv _ hf y2 hD hl
      obtain ⟨fu, rfl⟩ : ∃ g, fu = g + 1 := ⟨fu - 1, by omega⟩
      obtain rfl : v = 6 := by omega
      exact Or.inl ⟨hl, fu, m1, rfl, y2, hD⟩
    | succ d ih =>
      intro v fu m1 hv hv1 hf y2 hD hl
      obtain ⟨fu, rfl⟩ : ∃ g, fu = g + 1 := ⟨fu - 1, by omega⟩
      have x31 : m1 31 = m 31 := y2 31 (by decide)
      have x32 : m1 32 = m 32 := y2 32 (by decide)
      by_cases s : (v : Int) < m 31 q
      case neg =>
        refine Or.inr ⟨by omega, wm (wm m1 178 0 3) 79 v (-1), ?_, by simp [wm_at], (y2.up (by decide)).tr (eM.up (l := [178, 79]) (by repeat first | exact eM.rf _ _ | refine eM.wm ?_ (by decide) _ _) (by decide))⟩
        show GL_Mo_reads_206 _ _ _ m1 = _
        unfold GL_Mo_reads_206
        have r1 : (wm (wm m1 178 0 3) 79 v (-1)) 79 v = -1 := by rw [wm_at, if_pos ⟨rfl, rfl⟩]
        rw [if_neg (by omega), s_askN hq (by rw [x31]; omega) (by rw [x31]; omega), q_some2, gd1 (by omega), Int.toNat_natCast, bi1, r1, if_neg (by decide)]
      obtain ⟨lb, l0, l1⟩ := lab v (by omega) s
      have n2 : eM [79] m1 (wm m1 79 v (m 32 (12 * q + v))) := (by repeat first | exact eM.rf _ _ | refine eM.wm ?_ (by decide) _ _)
      have hM : GO_Mo_reads_206 (fu + 1) (q : Int) (v : Int) m1 = GO_Mo_reads_206 fu (q : Int) ((v + 1 : Nat) : Int) (wm m1 79 v (m 32 (12 * q + v))) := by
        show GL_Mo_reads_206 _ _ _ m1 = _
        unfold GL_Mo_reads_206
        have r1 : (wm m1 79 v (m 32 (12 * q + v))) 79 v = m 32 (12 * q + v) := by rw [wm_at, if_pos ⟨rfl, rfl⟩]
        rw [if_neg (by omega), s_askY hq (by omega) (by rw [x31]; exact s), q_some2, x32, gd1 (by omega), Int.toNat_natCast, bi1, r1, if_pos l0, p_w1 (x := (v : Int) + 1) (by omega) (by omega), bi1]
        rfl
      rw [hM]
      refine ih (v + 1) fu _ (by omega) (by omega) (by omega) (y2.tr n2) (fun k k1 k2 => ?_) (by omega)
      simp only [wm_at]
      by_cases ek : k = v
      · subst ek
        simp
      · simpa [ek] using hD k k1 (by omega)
  rcases key 5 1 3000 m rfl (by omega) (by omega) (eM.rf _ _) (fun k k1 k2 => absurd k2 (by omega)) h1 with ⟨l6, f1, m1, z1, z2, z3⟩ | ⟨l6, m', z1, z2, z3⟩
  case inr =>
    refine ⟨-13, 0, c, m', ?_, z1, eC.rf _ _, z3, Or.inl ⟨3, Or.inr rfl, rfl, z2, rfl⟩⟩
    unfold G_Reading_readFormB
    rw [gd1 hvp, ← e31, if_neg (by omega)]
  obtain ⟨a1, a2, a3⟩ := lab 1 (by omega) (by omega)
  obtain ⟨b1, b2, b3⟩ := lab 2 (by omega) (by omega)
  obtain ⟨c1', c2, c3⟩ := lab 3 (by omega) (by omega)
  obtain ⟨d1, d2, d3⟩ := lab 4 (by omega) (by omega)
  obtain ⟨e1, e2, e3⟩ := lab 5 (by omega) (by omega)
  have k1 := z3 1 (by omega) (by omega)
  have k2 := z3 2 (by omega) (by omega)
  have k3 := z3 3 (by omega) (by omega)
  have k4 := z3 4 (by omega) (by omega)
  have k5 := z3 5 (by omega) (by omega)
  have e178 : m1 178 0 = 0 := by rw [z2 178 (by decide)]; exact h178
  have hM : GO_Mo_reads_206 (f1 + 1) (q : Int) (6 : Nat) m1 = (if m 32 (12 * q + 5) ≠ p_rem (7 * m 32 (12 * q + 1) + 5 * m 32 (12 * q + 2) + 3 * m 32 (12 * q + 3) + m 32 (12 * q + 4)) 97 then some (0, wm (wm (wm m1 175 0 (m 32 (12 * q + 1))) 176 0 (256 * m 32 (12 * q + 2) + m 32 (12 * q + 3))) 177 0 (m 32 (12 * q + 4))) else some (1, wm (wm (wm m1 175 0 (m 32 (12 * q + 1))) 176 0 (256 * m 32 (12 * q + 2) + m 32 (12 * q + 3))) 177 0 (m 32 (12 * q + 4)))) := by
    show GL_Mo_reads_206 _ _ _ m1 = _
    unfold GL_Mo_reads_206
    rw [if_pos (by decide), gd1 (by decide), bi1, gd1 (by decide), gd1 (by decide), bi1, gd1 (by decide), bi1, gd1 (by decide)]
    simp only [show (1 : Int).toNat = 1 from rfl, show (2 : Int).toNat = 2 from rfl, show (3 : Int).toNat = 3 from rfl, show (4 : Int).toNat = 4 from rfl, show (5 : Int).toNat = 5 from rfl, wm_at, Nat.reduceEqDiff, false_and, if_false, k1, k2, k3, k4, k5]
    simp (disch := omega) only [p_w1]
  have hC : G_Reading_readFormB (31 * w + pl) c = (if m 32 (12 * q + 5) = p_rem (7 * m 32 (12 * q + 1) + 5 * m 32 (12 * q + 2) + 3 * m 32 (12 * q + 3) + m 32 (12 * q + 4)) 97 then some (0, wc (wc (wc (wc c 901 0 0 (m 32 (12 * q + 1))) 902 0 0 (256 * m 32 (12 * q + 2) + m 32 (12 * q + 3))) 903 0 0 (m 32 (12 * q + 4))) 900 0 0 0) else some (0, wc (wc (wc (wc c 901 0 0 (m 32 (12 * q + 1))) 902 0 0 (256 * m 32 (12 * q + 2) + m 32 (12 * q + 3))) 903 0 0 (m 32 (12 * q + 4))) 900 0 0 1)) := by
    unfold G_Reading_readFormB
    rw [gd1 hvp, ← e31, if_pos l6, gd1 (by decide), bi1, gd1 (by decide), gd1 (by decide), bi1, gd1 (by decide), bi1, gd1 (by decide)]
    simp only [show (1 : Int).toNat = 1 from rfl, show (2 : Int).toNat = 2 from rfl, show (3 : Int).toNat = 3 from rfl, show (4 : Int).toNat = 4 from rfl, show (5 : Int).toNat = 5 from rfl, wc_at, Nat.reduceEqDiff, false_and, if_false, true_and, if_true, and_self, ← a1, ← b1, ← c1', ← d1, ← e1, bi1]
    simp (disch := omega) only [p_w1]
  rw [show GO_Mo_reads_206 3000 (q : Int) 1 m = _ from z1, hM, hC]
  by_cases z : m 32 (12 * q + 5) = p_rem (7 * m 32 (12 * q + 1) + 5 * m 32 (12 * q + 2) + 3 * m 32 (12 * q + 3) + m 32 (12 * q + 4)) 97
  · rw [if_pos z, if_neg (fun y => y z)]
    refine ⟨0, 1, _, _, rfl, rfl, eC.up (l := [900, 901, 902, 903]) (by repeat first | exact eC.rf _ _ | refine eC.wc ?_ (by decide) _ _ _ | refine eC.sr ?_ (by decide) _ _) (by decide), (z2.up (by decide)).tr (eM.up (l := [175, 176, 177]) (by repeat first | exact eM.rf _ _ | refine eM.wm ?_ (by decide) _ _) (by decide)), Or.inr (Or.inr ?_)⟩
    simp [wc_at, wm_at, e178]
    omega
  · rw [if_neg z, if_pos z]
    refine ⟨0, 0, _, _, rfl, rfl, eC.up (l := [900, 901, 902, 903]) (by repeat first | exact eC.rf _ _ | refine eC.wc ?_ (by decide) _ _ _ | refine eC.sr ?_ (by decide) _ _) (by decide), (z2.up (by decide)).tr (eM.up (l := [175, 176, 177]) (by repeat first | exact eM.rf _ _ | refine eM.wm ?_ (by decide) _ _) (by decide)), Or.inr (Or.inl ?_)⟩
    simp [wc_at, wm_at, e178]
theorem s_read {c : h_C} {m : h_M} {w pl q : Nat} (hw : w < 3) (p1 : 1 ≤ pl) (p30 : pl ≤ 30) (hq : q < 2001) (hp : LB c m w pl q) : ∃ r rr c' m', G_Reading_read (31 * w + pl) c = some (r, c') ∧ G_Mo_reads (q : Int) m = some (rr, m') ∧ eC dC c c' ∧ eM dM m m' ∧ RD r rr c' m' := by
  have hvp : vP (31 * w + pl) := ⟨by omega, by omega⟩
  obtain ⟨e31, n1, n12, lab⟩ := id hp
  have y0 : eM [178] m (wm m 178 0 0) := (by repeat first | exact eM.rf _ _ | refine eM.wm ?_ (by decide) _ _)
  have e178 : (wm m 178 0 0) 178 0 = 0 := by simp [wm_at]
  have x31 : (wm m 178 0 0) 31 = m 31 := y0 31 (by decide)
  have x32 : (wm m 178 0 0) 32 = m 32 := y0 32 (by decide)
  have hp' : LB c (wm m 178 0 0) w pl q := by
    unfold LB at hp ⊢
    simpa [wm_at] using hp
  have hC : G_Reading_read (31 * w + pl) c = (if m 31 q ≠ -1 then (if m 31 q ≠ 0 then (if c 2015 (31 * w + pl) 0 ≠ 65 then (if c 2015 (31 * w + pl) 0 ≠ 66 then some (0, wc c 900 0 0 1) else G_Reading_readFormB (31 * w + pl) c) else G_Reading_readFormA (31 * w + pl) c) else some (-13, c)) else some (-11, c)) := by
    unfold G_Reading_read
    have eta : ∀ x : Option (Int × h_C), (q_bd x fun r c' => some (r, c')) = x := fun x => by cases x <;> rfl
    rw [gd1 hvp, ← e31, gd1 (by decide), bi1, eta, eta]
    rfl
  by_cases s1 : m 31 q = -1
  · refine ⟨-11, 0, c, wm (wm m 178 0 0) 178 0 1, by rw [hC, if_neg (fun z => z s1)], ?_, eC.rf _ _, eM.up (l := [178]) (by repeat first | exact eM.rf _ _ | refine eM.wm ?_ (by decide) _ _) (by decide), Or.inl ⟨1, Or.inl rfl, rfl, by simp [wm_at], rfl⟩⟩
    unfold G_Mo_reads
    rw [bi1, s_ask0 hq (by rw [x31]; omega), q_some2, if_pos (by decide), if_neg (by decide)]
  rw [if_pos s1] at hC
  by_cases s0 : m 31 q = 0
  · refine ⟨-13, 0, c, wm (wm m 178 0 0) 178 0 3, by rw [hC, if_neg (fun z => z s0)], ?_, eC.rf _ _, eM.up (l := [178]) (by repeat first | exact eM.rf _ _ | refine eM.wm ?_ (by decide) _ _) (by decide), Or.inl ⟨3, Or.inr rfl, rfl, by simp [wm_at], rfl⟩⟩
    unfold G_Mo_reads
    have := s_askN (q := q) (v := 0) (m := wm m 178 0 0) hq (by rw [x31]; omega) (by rw [x31]; omega)
    rw [bi1, show G_Mo_asked (q : Int) 0 (wm m 178 0 0) = some (-1, wm (wm m 178 0 0) 178 0 3) from this, q_some2, if_pos (by decide), if_neg (by decide)]
  rw [if_pos s0] at hC
  obtain ⟨lb, l0, l1⟩ := lab 0 (by omega) (by omega)
  rw [Nat.add_zero] at lb
  have hM : G_Mo_reads (q : Int) m = (if m 32 (12 * q) ≠ 65 then (if m 32 (12 * q) = 66 then GO_Mo_reads_206 3000 (q : Int) 1 (wm m 178 0 0) else some (0, wm m 178 0 0)) else GO_Mo_reads_20 3000 (q : Int) 1 (wm m 178 0 0)) := by
    unfold G_Mo_reads
    have := s_askY (q := q) (v := 0) (m := wm m 178 0 0) hq (by omega) (by rw [x31]; omega)
    rw [bi1, show G_Mo_asked (q : Int) 0 (wm m 178 0 0) = some ((wm m 178 0 0) 32 (12 * q + 0), wm m 178 0 0) from this, q_some2, x32, Nat.add_zero]
  rw [← lb] at hC
  rw [hC, hM]
  by_cases k65 : m 32 (12 * q) = 65
  · simp only [if_neg (show ¬ (m 32 (12 * q) ≠ 65) from fun z => z k65)]
    obtain ⟨r, rr, c', m', z1, z2, z3, z4, z5⟩ := s_formA hw p1 p30 hq hp' (by rw [x31]; omega) e178
    exact ⟨r, rr, c', m', z1, z2, z3, (y0.up (by decide)).tr z4, z5⟩
  simp only [if_pos k65]
  by_cases k66 : m 32 (12 * q) = 66
  · simp only [if_neg (show ¬ (m 32 (12 * q) ≠ 66) from fun z => z k66), if_pos k66]
    obtain ⟨r, rr, c', m', z1, z2, z3, z4, z5⟩ := s_formB hw p1 p30 hq hp' (by rw [x31]; omega) e178
    exact ⟨r, rr, c', m', z1, z2, z3, (y0.up (by decide)).tr z4, z5⟩
  simp only [if_pos k66, if_neg k66]
  refine ⟨0, 0, _, _, rfl, rfl, eC.up (l := [900]) (by repeat first | exact eC.rf _ _ | refine eC.wc ?_ (by decide) _ _ _ | refine eC.sr ?_ (by decide) _ _) (by decide), y0.up (by decide), Or.inr (Or.inl ⟨rfl, by simp [wc_at], e178, rfl⟩)⟩
