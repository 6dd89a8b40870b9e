def diC : List Nat := [16, 2005, 403, 804, 12]
def diM : List Nat := [15, 173, 43, 42, 102, 172, 20]
theorem ZZ.dial {b : Nat} (hb : b < 1000000000) {c : h_C} {m : h_M} {w : Nat} {F L : Int} (h : ZZ b c m w F L) {g : Nat} (hg : (g : Int) < m 3 w) (ha : m 171 0 = (g : Int)) : ∃ c' m', G_Step_setDial (g : Int) (40 * w + g + 1) c = some c' ∧ G_Mo_actPanel (g : Int) m = some m' ∧ ZZ (b + 1) c' m' w F L ∧ eC diC c c' ∧ eM diM m m' := by
  obtain ⟨hR, ⟨hw, e1, e2, e3, e4, e5⟩, _⟩ := id h
  obtain ⟨g40, i120, hj, eK, k0, k10, eL, l0, l8, lt, ln⟩ := hR.gr hw hg
  obtain ⟨n1, n2, n3, _, _⟩ := (hR.G.2 w g hw g40).1 hg
  have w3 : (0 : Int) ≤ (w : Int) ∧ (w : Int) < 3 := by omega
  have i12 : (0 : Int) ≤ ((40 * w + g : Nat) : Int) ∧ ((40 * w + g : Nat) : Int) < 120 := by omega
  have fin : ∀ (m1 : h_M), eM [173] m m1 → ∀ f k : Int, 1 ≤ f ∧ f ≤ 6 → ∃ c' m', G_Step_addFinding (g : Int) 4 (-10 - f) k c = some c' ∧ G_Mo_find 4 f k m1 = some m' ∧ ZZ (b + 1) c' m' w F L ∧ eC diC c c' ∧ eM diM m m' := by
    intro m1 y3 f k hf'
    have h1 : ZZ b c m1 w F L := h.scr (lc := []) (lm := [173]) (eC.rf _ _) y3 rfl rfl rfl rfl
    obtain ⟨c', m', z1, z2, z3, z4, z5, _⟩ := h1.fi (by omega) (g : Int) 4 f k hf' (Or.inr ⟨by omega, by rw [y3 3 (by decide)]; exact hg, by rw [y3 171 (by decide)]; exact ha⟩)
    rw [if_neg (by omega)] at z1
    exact ⟨c', m', z1, z2, z3, z4.up (by decide), (y3.up (by decide)).tr (z5.up (by decide))⟩
  by_cases hn : m 7 (40 * w + g) = -1
  · obtain ⟨c', m', z1, z2, z3⟩ := fin m (eM.rf _ _) 1 0 (by omega)
    refine ⟨c', m', ?_, ?_, z3⟩
    · have hf : G_Works_follow w (40 * w + g + 1) 0 c = some (-11) := by
        unfold G_Works_follow
        rw [gd1 hj, n1, if_neg (by simp [hn])]
      have key : ∀ n : Nat, GO_Step_setDial_23 (n + 1) (g : Int) (40 * w + g + 1) 0 1 0 c = some c' := by
        intro n
        show GL_Step_setDial_23 _ _ _ _ _ _ c = _
        unfold GL_Step_setDial_23
        rw [if_neg (by omega), e4, Int.toNat_natCast, gd1 w3, hf, q_some, if_neg (by omega), show (-11 : Int) = -10 - 1 by decide, z1, q_some]
      unfold G_Step_setDial GB_Step_setDial_18
      rw [gd1 hj, n1, if_neg (by simp [hn])]
      exact key 2999
    · unfold G_Mo_actPanel
      rw [s_g hw e1 g40, q_some, gd1 i12, Int.toNat_natCast, if_neg (by omega), z2, q_some]
  obtain ⟨n, hn'⟩ : ∃ n : Nat, m 7 (40 * w + g) = (n : Int) := ⟨(m 7 (40 * w + g)).toNat, by omega⟩
  have key : ∀ (d k s fu : Nat) (m1 : h_M), k + d = n → s ≤ 8 * k → d < fu → eM [173] m m1 → ∃ c' m', GO_Step_setDial_23 fu (g : Int) (40 * w + g + 1) (s : Int) (n : Int) (k : Int) c = some c' ∧ GO_Mo_actPanel_28 fu (g : Int) ((40 * w + g : Nat) : Int) (s : Int) (k : Int) m1 = some m' ∧ ZZ (b + 1) c' m' w F L ∧ eC diC c c' ∧ eM diM m m' := by
    intro d
    induction d with
    | zero =>
      intro k s fu m1 hk hs hf y3
      obtain ⟨fu, rfl⟩ : ∃ g, fu = g + 1 := ⟨fu - 1, by omega⟩
      have h1 : ZZ b c m1 w F L := h.scr (lc := []) (lm := [173]) (eC.rf _ _) y3 rfl rfl rfl rfl
      have a1 : eC [16] c (wc c 16 (40 * w + g + 1) 0 (s : Int)) := (by repeat first | exact eC.rf _ _ | refine eC.wc ?_ (by decide) _ _ _ | refine eC.sr ?_ (by decide) _ _)
      have a2 : eM [15] m1 (wm m1 15 (40 * w + g) (s : Int)) := (by repeat first | exact eM.rf _ _ | refine eM.wm ?_ (by decide) _ _)
      refine ⟨_, _, ?_, ?_, (h1.ofE (Nat.le_refl _) (h1.1.f16 (40 * w + g) (s : Int)) a1 a2 rfl rfl).more (by omega), a1.up (by decide), (y3.up (by decide)).tr (a2.up (by decide))⟩
      · show GL_Step_setDial_23 _ _ _ _ _ _ c = _
        unfold GL_Step_setDial_23
        rw [if_pos (by omega), gd1 hj, bi1]
      · show GL_Mo_actPanel_28 _ _ _ _ _ m1 = _
        unfold GL_Mo_actPanel_28
        rw [gd1 i12, Int.toNat_natCast, y3 7 (by decide), hn', if_pos (by omega), bi1]
    | succ d ih =>
      intro k s fu m1 hk hs hf y3
      obtain ⟨fu, rfl⟩ : ∃ g, fu = g + 1 := ⟨fu - 1, by omega⟩
      have h1 : ZZ b c m1 w F L := h.scr (lc := []) (lm := [173]) (eC.rf _ _) y3 rfl rfl rfl rfl
      have e11 : m1 100 0 = (w : Int) := h1.2.1.2.1
      have hg1 : (g : Int) < m1 3 w := by rw [y3 3 (by decide)]; exact hg
      have kn : ¬ (n : Int) ≤ (k : Int) := by omega
      have bk : p_w ((k : Int) + 1) = ((k + 1 : Nat) : Int) := p_w1 (by omega) (by omega)
      have bs : ∀ x : Nat, x ≤ 8 → p_w ((s : Int) + (x : Int)) = ((s + x : Nat) : Int) := fun x hx => p_w1 (by omega) (by omega)
      obtain ⟨f, v, m2, x1, x2, x3, x4⟩ := s_follow h1.1 hw e11 hg1 (k : Int) (by omega)
      have y32 : eM [173] m m2 := y3.tr x3
      have e12 : m2 100 0 = (w : Int) := by rw [x3 100 (by decide)]; exact e11
      rcases x4 with ⟨rfl, t, rfl, t3, t4⟩ | ⟨hf', rfl⟩
      case inr =>
        obtain ⟨c', m', z1, z2, z3⟩ := fin m2 y32 f (k : Int) (by omega)
        refine ⟨c', m', ?_, ?_, z3⟩
        · show GL_Step_setDial_23 _ _ _ _ _ _ c = _
          unfold GL_Step_setDial_23
          rw [if_neg kn, e4, Int.toNat_natCast, gd1 w3, x1, q_some, if_neg (by omega), z1, q_some]
        · show GL_Mo_actPanel_28 _ _ _ _ _ m1 = _
          unfold GL_Mo_actPanel_28
          rw [gd1 i12, Int.toNat_natCast, y3 7 (by decide), hn', if_neg kn, x2, q_some2, if_neg (by omega), z2, q_some]
      have h2 : ZZ b c m2 w F L := h.scr (lc := []) (lm := [173]) (eC.rf _ _) y32 rfl rfl rfl rfl
      have t32 : (t : Int) < m2 3 w := by rw [x3 3 (by decide)]; exact t3
      obtain ⟨t40, i120t, hjt, eKt, _, _, _, tl0, tl8, _⟩ := h2.1.gr hw t32
      have hl := ld_le m2 (40 * w + t) tl8
      obtain ⟨c', m', z1, z2, z3⟩ := ih (k + 1) (s + ld m2 (40 * w + t)) fu m2 (by omega) (by omega) (by omega) y32
      refine ⟨c', m', ?_, ?_, z3⟩
      · show GL_Step_setDial_23 _ _ _ _ _ _ c = _
        unfold GL_Step_setDial_23
        rw [if_neg kn, e4, e5, Int.toNat_natCast, gd1 w3, x1, q_some, if_pos (by omega), gd1 w3, gd1 (by omega), Int.toNat_natCast, s_parcels h2.1 hw t32, q_some, bs _ hl, bk, bi1, bi1]
        exact z1
      · show GL_Mo_actPanel_28 _ _ _ _ _ m1 = _
        unfold GL_Mo_actPanel_28
        rw [gd1 i12, Int.toNat_natCast, y3 7 (by decide), hn', if_neg kn, x2, q_some2, if_pos (by omega), t4, s_g hw e12 t40, q_some, s_load i120t tl0 tl8, q_some, bs _ hl, bk, bi1, bi1]
        exact z2
  obtain ⟨c', m', z1, z2, z3⟩ := key n 0 0 3000 m (by omega) (by omega) (by omega) (eM.rf _ _)
  refine ⟨c', m', ?_, ?_, z3⟩
  · unfold G_Step_setDial GB_Step_setDial_18
    rw [gd1 hj, n1, if_pos hn, hn']
    exact z1
  · unfold G_Mo_actPanel
    rw [s_g hw e1 g40, q_some, gd1 i12, Int.toNat_natCast, if_pos (by omega)]
    exact z2
/-- bodies, one after the other -/
def bds : List Int → h_M → Option h_M
  | [], m => some m
  | v :: l, m => q_bv (G_Mo_body v m) fun m1 => bds l m1
theorem bds_app (l k : List Int) (m : h_M) : bds (l ++ k) m = q_bv (bds l m) fun m1 => bds k m1 := by
  induction l generalizing m with
  | nil => exact (q_some _ _).symm
  | cons v l ih =>
    show (q_bv (G_Mo_body v m) fun m1 => bds (l ++ k) m1) = q_bv (q_bv (G_Mo_body v m) fun m1 => bds l m1) fun m1 => bds k m1
    cases e : G_Mo_body v m with
    | none => rfl
    | some m1 => rw [q_some, q_some, ih]
def nz (x : Int) : List Int := if x = 0 then [] else [x]
theorem ZZ.act1 {b : Nat} (hb : b < 2000000000) {c : h_C} {m : h_M} {w : Nat} {F L : Int} (h : ZZ b c m w F L) {j : Nat} (hj : vG j) (g : Int) {K i : Nat} (hK : K ≤ 10) (hi : i < 3) (eK : c 0 j 0 = (K : Int)) (n : Nat) : ∃ c' m', GO_Step_act_22 (n + 1) g j ((3 * K + i : Nat) : Int) c = GO_Step_act_22 n g j ((3 * K + (i + 1) : Nat) : Int) c' ∧ bds (nz (sw_tab 3 (3 * K + i))) m = some m' ∧ ZZ (b + 1) c' m' w F L ∧ eC [211, 2037] c c' ∧ eM [44, 45] m m' := by
  have hC : ∀ X, (if sw_tab 3 (3 * K + i) = 0 then GO_Step_act_22 n g j ((3 * K + (i + 1) : Nat) : Int) c else q_bv (G_Step_addTrace (sw_tab 3 (3 * K + i)) c) fun c27 => GO_Step_act_22 n g j ((3 * K + (i + 1) : Nat) : Int) c27) = X → GO_Step_act_22 (n + 1) g j ((3 * K + i : Nat) : Int) c = X := by
    intro X hX
    show GL_Step_act_22 _ _ _ _ c = _
    unfold GL_Step_act_22 GB_Step_act_51
    have bp : p_w (((3 * K + i : Nat) : Int) + 1) = ((3 * K + (i + 1) : Nat) : Int) := by rw [p_w1 (by omega) (by omega)]; omega
    have tl : (sw_tl 3 : Int) = 33 := rfl
    rw [gd1 hj, eK, p_w1 (x := (K : Int) + 1) (by omega) (by omega), p_w1 (x := 3 * ((K : Int) + 1)) (by omega) (by omega), if_neg (by omega), gd1 (by omega), Int.toNat_natCast, bp]
    simp only [bi1]
    exact hX
  unfold nz
  by_cases z : sw_tab 3 (3 * K + i) = 0
  · exact ⟨c, m, hC _ (by rw [if_pos z]), by rw [if_pos z]; rfl, h.more (by omega), eC.rf _ _, eM.rf _ _⟩
  · obtain ⟨c', m', a1, a2, a3, a4, a5⟩ := h.tr hb (sw_tab 3 (3 * K + i))
    refine ⟨c', m', hC _ (by rw [if_neg z, a1, q_some]), ?_, a3, a4, a5⟩
    rw [if_neg z]
    show (q_bv (G_Mo_body _ m) fun m1 => bds [] m1) = _
    rw [a2, q_some]
    rfl
def bodL (K : Nat) : List Int := nz (sw_tab 3 (3 * K)) ++ (nz (sw_tab 3 (3 * K + 1)) ++ nz (sw_tab 3 (3 * K + 2)))
theorem ZZ.act3 {b : Nat} (hb : b < 1000000000) {c : h_C} {m : h_M} {w : Nat} {F L : Int} (h : ZZ b c m w F L) {j : Nat} (hj : vG j) (g : Int) {K : Nat} (hK : K ≤ 10) (eK : c 0 j 0 = (K : Int)) (n : Nat) : ∃ c' m', GO_Step_act_22 (n + 3) g j ((3 * K : Nat) : Int) c = GO_Step_act_22 n g j ((3 * K + 3 : Nat) : Int) c' ∧ bds (bodL K) m = some m' ∧ ZZ (b + 3) c' m' w F L ∧ eC [211, 2037] c c' ∧ eM [44, 45] m m' := by
  obtain ⟨c1, m1, a1, a2, a3, a4, a5⟩ := h.act1 (by omega) hj g hK (i := 0) (by omega) eK (n + 2)
  obtain ⟨c2, m2, b1, b2, b3, b4, b5⟩ := a3.act1 (by omega) hj g hK (i := 1) (by omega) (by rw [a4 0 (by decide)]; exact eK) (n + 1)
  obtain ⟨c3, m3, d1, d2, d3, d4, d5⟩ := b3.act1 (by omega) hj g hK (i := 2) (by omega) (by rw [b4 0 (by decide), a4 0 (by decide)]; exact eK) n
  refine ⟨c3, m3, (a1.trans b1).trans d1, ?_, d3, (a4.tr b4).tr d4, (a5.tr b5).tr d5⟩
  unfold bodL
  rw [bds_app, show bds (nz (sw_tab 3 (3 * K))) m = some m1 from a2, q_some, bds_app, b2, q_some, d2]
