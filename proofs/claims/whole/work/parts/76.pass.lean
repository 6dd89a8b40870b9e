theorem ZZ.gout {b : Nat} (hb : b < 1000000000) {c : h_C} {m : h_M} {w : Nat} {F L : Int} (h : ZZ b c m w F L) {g pl q : Nat} (hg : (g : Int) < m 3 w) (ha : m 171 0 = (g : Int)) (p1 : 1 ≤ pl) (p30 : pl ≤ 30) (hq : 1 ≤ q) (ep : c 101 (31 * w + pl) 0 = (q : Int)) : ∃ r c' m', G_Step_giveOut (g : Int) (40 * w + g + 1) (31 * w + pl) c = some (r, c') ∧ G_Mo_givesOut (g : Int) (q : Int) m = some (r, m') ∧ (r = 0 ∨ r = 1) ∧ ZZ (b + 3) c' m' w F L ∧ eC gC c c' ∧ eM gM m m' := by
  obtain ⟨hR, ⟨hw, e1, e2, e3, e4, e5⟩, _⟩ := id h
  obtain ⟨g40, i120, hj, eK, _⟩ := hR.gr hw hg
  obtain ⟨l1, l2, l3, _, _⟩ := (hR.G.2 w g hw g40).1 hg
  have hp := hR.po hw p1 p30 hq ep
  have n2 := hR.N.2.2.1
  have qn := hp.1.1.2.1
  have hvp : vP (31 * w + pl) := ⟨by omega, by omega⟩
  have fin : ∀ (m1 : h_M), eM [173] m m1 → ∀ f' : Int, 1 ≤ f' ∧ f' ≤ 6 → ∃ c' m', G_Step_addFinding (g : Int) 1 (-10 - f') (q : Int) c = some c' ∧ G_Mo_find 1 f' (q : Int) m1 = some m' ∧ ZZ (b + 3) c' m' w F L ∧ eC gC c c' ∧ eM gM m m' := by
    intro m1 y3 f' hf'
    have h1 : ZZ b c m1 w F L := h.scr (lc := []) (lm := [173]) (eC.rf _ _) y3 rfl rfl rfl rfl
    obtain ⟨c', m', z1, z2, z3, z4, z5, _⟩ := h1.fi (by omega) (g : Int) 1 f' (q : Int) hf' (Or.inr ⟨by omega, by rw [y3 3 (by decide)]; exact hg, by rw [y3 171 (by decide)]; exact ha⟩)
    rw [if_neg (by omega)] at z1
    exact ⟨c', m', z1, z2, z3.more (by omega), z4.up (by decide), (y3.up (by decide)).tr (z5.up (by decide))⟩
  by_cases hn : m 7 (40 * w + g) = -1
  · obtain ⟨c', m', z1, z2, z3, z4, z5⟩ := fin m (eM.rf _ _) 1 (by omega)
    refine ⟨0, c', m', ?_, ?_, Or.inl rfl, z3, z4, z5⟩
    · have hf : G_Works_follow w (40 * w + g + 1) 0 c = some (-11) := by
        unfold G_Works_follow
        rw [gd1 hj, l1, if_neg (by simp [hn])]
      have key : ∀ n : Nat, GO_Step_giveOut_21 (n + 1) (g : Int) (40 * w + g + 1) (31 * w + pl) 1 0 c = some (0, c') := by
        intro n
        show GL_Step_giveOut_21 _ _ _ _ _ _ c = _
        unfold GL_Step_giveOut_21 GB_Step_giveOut_74
        rw [if_neg (by omega), e4, Int.toNat_natCast, gd1 (by omega), hf, q_some, if_neg (by omega), if_neg (by omega), gd1 hvp, ep, show (-11 : Int) = -10 - 1 by decide, z1, q_some]
      unfold G_Step_giveOut GB_Step_giveOut_16
      rw [gd1 hj, l1, if_neg (by simp [hn])]
      exact key 2999
    · have key : ∀ n : Nat, GO_Mo_givesOut_25 (n + 1) (g : Int) (q : Int) ((40 * w + g : Nat) : Int) 1 0 m = some (0, m') := by
        intro n
        show GL_Mo_givesOut_25 _ _ _ _ _ _ m = _
        unfold GL_Mo_givesOut_25
        rw [gd1 (by omega), Int.toNat_natCast, if_pos (by omega), if_neg (by omega), z2, q_some]
      unfold G_Mo_givesOut GB_Mo_givesOut_20
      rw [s_g hw e1 g40, q_some, gd1 (by omega), Int.toNat_natCast, if_neg (by omega)]
      exact key 2999
  obtain ⟨n, hn'⟩ : ∃ n : Nat, m 7 (40 * w + g) = (n : Int) := ⟨(m 7 (40 * w + g)).toNat, by omega⟩
  have key : ∀ (d k fu : Nat) (m1 : h_M), k + d = n → d < fu → eM [173] m m1 → ∃ r c' m', GO_Step_giveOut_21 fu (g : Int) (40 * w + g + 1) (31 * w + pl) (n : Int) (k : Int) c = some (r, c') ∧ GO_Mo_givesOut_25 fu (g : Int) (q : Int) ((40 * w + g : Nat) : Int) 0 (k : Int) m1 = some (r, m') ∧ (r = 0 ∨ r = 1) ∧ ZZ (b + 3) c' m' w F L ∧ eC gC c c' ∧ eM gM m m' := by
    intro d
    induction d with
    | zero =>
      intro k fu m1 hk hf y3
      obtain ⟨fu, rfl⟩ : ∃ g, fu = g + 1 := ⟨fu - 1, by omega⟩
      refine ⟨0, c, m1, ?_, ?_, Or.inl rfl, (h.scr (lc := []) (lm := [173]) (eC.rf _ _) y3 rfl rfl rfl rfl).more (by omega), eC.rf _ _, y3.up (by decide)⟩
      · show GL_Step_giveOut_21 _ _ _ _ _ _ c = _
        unfold GL_Step_giveOut_21
        rw [if_pos (by omega)]
      · show GL_Mo_givesOut_25 _ _ _ _ _ _ m1 = _
        unfold GL_Mo_givesOut_25
        rw [gd1 (by omega), Int.toNat_natCast, y3 7 (by decide), hn', if_pos (by omega), if_pos (by omega)]
    | succ d ih =>
      intro k fu m1 hk hf y3
      obtain ⟨fu, rfl⟩ : ∃ g, fu = g + 1 := ⟨fu - 1, by omega⟩
      have h1 : ZZ b c m1 w F L := h.scr (lc := []) (lm := [173]) (eC.rf _ _) y3 rfl rfl rfl rfl
      have e11 : m1 100 0 = (w : Int) := h1.2.1.2.1
      have hg1 : (g : Int) < m1 3 w := by rw [y3 3 (by decide)]; exact hg
      obtain ⟨f, v, m2, x1, x2, x3, x4⟩ := s_follow h1.1 hw e11 hg1 (k : Int) (by omega)
      have y32 : eM [173] m m2 := y3.tr x3
      have e12 : m2 100 0 = (w : Int) := by rw [x3 100 (by decide)]; exact e11
      have hCg : ∀ X, (if 0 ≤ v then (if c 0 (40 * w + v.toNat + 1) 0 = 9 then GB_Step_giveOut_74 (GO_Step_giveOut_21 fu) (g : Int) (40 * w + g + 1) (31 * w + pl) (n : Int) (k : Int) v 0 c else GB_Step_giveOut_74 (GO_Step_giveOut_21 fu) (g : Int) (40 * w + g + 1) (31 * w + pl) (n : Int) (k : Int) v (-12) c) else GB_Step_giveOut_74 (GO_Step_giveOut_21 fu) (g : Int) (40 * w + g + 1) (31 * w + pl) (n : Int) (k : Int) v v c) = X → (0 ≤ v → v < 40) → GO_Step_giveOut_21 (fu + 1) (g : Int) (40 * w + g + 1) (31 * w + pl) (n : Int) (k : Int) c = X := by
        intro X hX hv
        show GL_Step_giveOut_21 _ _ _ _ _ _ c = _
        unfold GL_Step_giveOut_21
        rw [if_neg (by omega), e4, e5, Int.toNat_natCast, gd1 (by omega), x1, q_some, ← hX]
        by_cases z : 0 ≤ v
        · rw [if_pos z, if_pos z, gd1 (by omega), gd1 (show 0 ≤ v ∧ v < 40 from ⟨z, hv z⟩)]
        · rw [if_neg z, if_neg z]
      have hMg : ∀ X, (if f ≠ 0 then GB_Mo_givesOut_71 (GO_Mo_givesOut_25 fu) (g : Int) (q : Int) ((40 * w + g : Nat) : Int) f (k : Int) m2 else q_bv (G_Mo_g (m2 173 0) m2) fun r15 => p_gd ((0 : Int) ≤ r15 ∧ r15 < (120 : Int)) (if (m2 5 (r15 : Int).toNat) = 9 then GB_Mo_givesOut_71 (GO_Mo_givesOut_25 fu) (g : Int) (q : Int) ((40 * w + g : Nat) : Int) f (k : Int) m2 else GB_Mo_givesOut_71 (GO_Mo_givesOut_25 fu) (g : Int) (q : Int) ((40 * w + g : Nat) : Int) 2 (k : Int) m2)) = X → GO_Mo_givesOut_25 (fu + 1) (g : Int) (q : Int) ((40 * w + g : Nat) : Int) 0 (k : Int) m1 = X := by
        intro X hX
        show GL_Mo_givesOut_25 _ _ _ _ _ _ m1 = _
        unfold GL_Mo_givesOut_25
        rw [gd1 (by omega), Int.toNat_natCast, y3 7 (by decide), hn', if_neg (by omega), x2, q_some2]
        exact hX
      have bad : ∀ f' : Int, 1 ≤ f' ∧ f' ≤ 6 → ∀ v6 : Int, ∃ c' m', GB_Step_giveOut_74 (GO_Step_giveOut_21 fu) (g : Int) (40 * w + g + 1) (31 * w + pl) (n : Int) (k : Int) v6 (-10 - f') c = some (0, c') ∧ GB_Mo_givesOut_71 (GO_Mo_givesOut_25 fu) (g : Int) (q : Int) ((40 * w + g : Nat) : Int) f' (k : Int) m2 = some (0, m') ∧ ZZ (b + 3) c' m' w F L ∧ eC gC c c' ∧ eM gM m m' := by
        intro f' hf' v6
        obtain ⟨c', m', z1, z2, z3, z4, z5⟩ := fin m2 y32 f' hf'
        refine ⟨c', m', ?_, ?_, z3, z4, z5⟩
        · unfold GB_Step_giveOut_74
          rw [if_neg (by omega), gd1 hvp, ep, z1, q_some]
        · unfold GB_Mo_givesOut_71
          rw [if_neg (by omega), z2, q_some]
      rcases x4 with ⟨rfl, t, rfl, t3, t4⟩ | ⟨hf', rfl⟩
      case inr =>
        obtain ⟨c', m', z1, z2, z3, z4, z5⟩ := bad f (by omega) (-10 - f)
        exact ⟨0, c', m', hCg _ (by rw [if_neg (by omega)]; exact z1) (by omega), hMg _ (by rw [if_pos (by omega)]; exact z2), Or.inl rfl, z3, z4, z5⟩
      have t3' : (t : Int) < m 3 w := by rw [y3 3 (by decide)] at t3; exact t3
      obtain ⟨t40, i120t, hjt, eKt, kt0, kt10, _⟩ := hR.gr hw t3'
      by_cases k9 : m 5 (40 * w + t) = 9
      case neg =>
        obtain ⟨c', m', z1, z2, z3, z4, z5⟩ := bad 2 (by omega) (t : Int)
        refine ⟨0, c', m', hCg _ ?_ (by omega), hMg _ ?_, Or.inl rfl, z3, z4, z5⟩
        · rw [if_pos (by omega), Int.toNat_natCast, eKt, if_neg k9]; exact z1
        · rw [if_neg (by simp), t4, s_g hw e12 t40, q_some, gd1 (by omega), Int.toNat_natCast, y32 5 (by decide), if_neg k9]; exact z2
      have a2 := (hR.G.1 (40 * w + t)).1.2.1
      have hCt : ∀ X, GB_Step_giveOut_74 (GO_Step_giveOut_21 fu) (g : Int) (40 * w + g + 1) (31 * w + pl) (n : Int) (k : Int) (t : Int) 0 c = X → GO_Step_giveOut_21 (fu + 1) (g : Int) (40 * w + g + 1) (31 * w + pl) (n : Int) (k : Int) c = X := fun X hX => hCg X (by rw [if_pos (by omega), Int.toNat_natCast, eKt, if_pos k9]; exact hX) (by omega)
      have hMt : ∀ X, GB_Mo_givesOut_71 (GO_Mo_givesOut_25 fu) (g : Int) (q : Int) ((40 * w + g : Nat) : Int) 0 (k : Int) m2 = X → GO_Mo_givesOut_25 (fu + 1) (g : Int) (q : Int) ((40 * w + g : Nat) : Int) 0 (k : Int) m1 = X := fun X hX => hMg X (by rw [if_neg (by simp), t4, s_g hw e12 t40, q_some, gd1 (by omega), Int.toNat_natCast, y32 5 (by decide), if_pos k9]; exact hX)
      by_cases ko : m 14 (40 * w + t) = 0
      · obtain ⟨r, c', m', z1, z2, z3⟩ := ih (k + 1) fu m2 (by omega) (by omega) y32
        refine ⟨r, c', m', hCt _ ?_, hMt _ ?_, z3⟩
        · unfold GB_Step_giveOut_74
          rw [if_pos rfl, e5, Int.toNat_natCast, Int.toNat_natCast, gd1 (by omega), gd1 (by omega), a2, if_pos ko, bi1, p_w1 (by omega) (by omega)]
          exact z1
        · unfold GB_Mo_givesOut_71
          rw [if_pos (by omega), t4, s_g hw e12 t40, q_some, gd1 (by omega), Int.toNat_natCast, y32 14 (by decide), if_pos ko, bi1, p_w1 (by omega) (by omega)]
          exact z2
      · have h2 : ZZ b c m2 w F L := h.scr (lc := []) (lm := [173]) (eC.rf _ _) y32 rfl rfl rfl rfl
        obtain ⟨c', m', z1, z2, z3, z4, z5⟩ := h2.out (by omega) (d := t) (g := g) (by rw [y32 3 (by decide)]; exact t3') (by rw [y32 3 (by decide)]; exact hg) p1 p30 hq ep
        refine ⟨1, c', m', hCt _ ?_, hMt _ ?_, Or.inr rfl, z3.more (by omega), z4, (y32.up (by decide)).tr z5⟩
        · unfold GB_Step_giveOut_74
          rw [if_pos rfl, e5, Int.toNat_natCast, Int.toNat_natCast, gd1 (by omega), gd1 (by omega), a2, if_neg ko, z1, q_some]
        · unfold GB_Mo_givesOut_71
          rw [if_pos (by omega), t4, s_g hw e12 t40, q_some, gd1 (by omega), Int.toNat_natCast, y32 14 (by decide), if_neg ko, z2, q_some]
  obtain ⟨r, c', m', z1, z2, z3⟩ := key n 0 3000 m (by omega) (by omega) (eM.rf _ _)
  refine ⟨r, c', m', ?_, ?_, z3⟩
  · unfold G_Step_giveOut GB_Step_giveOut_16
    rw [gd1 hj, l1, if_pos hn, hn']
    exact z1
  · unfold G_Mo_givesOut GB_Mo_givesOut_20
    rw [s_g hw e1 g40, q_some, gd1 (by omega), Int.toNat_natCast, if_pos (by omega)]
    exact z2
