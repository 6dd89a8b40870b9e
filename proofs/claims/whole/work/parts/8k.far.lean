/-! ===== far, ring, reach ===== -/
theorem follow_fr {c c' : h_C} (n : eC [2038] c c') (w j : Nat) (k : Int) : G_Works_follow w j k c' = G_Works_follow w j k c := by
  unfold G_Works_follow
  rw [n 3 (by decide), n 2010 (by decide), n 202 (by decide)]
/-- where link k of gear g leads: a taker, or nowhere -/
def tk (c : h_C) (w g k : Nat) : List Nat := match G_Works_follow w (40 * w + g + 1) (k : Int) c with
  | some v => if 0 ≤ v ∧ c 0 (40 * w + v.toNat + 1) 0 < 9 then [v.toNat] else []
  | none => []
def tf (c : h_C) (w g : Nat) : Nat → Nat → List Nat
  | 0, _ => []
  | d + 1, k => tk c w g k ++ tf c w g d (k + 1)
/-- links that count, by kind -/
def ns (m : h_M) (i : Nat) : Nat := if m 5 i = 5 then 2 else if m 5 i = 6 then 3 else if m 5 i = 7 ∨ m 5 i = 9 ∨ m 5 i = 10 then 0 else 1
def TT (c : h_C) (m : h_M) (w g : Nat) : List Nat := if (g : Int) < m 3 w then tf c w g (ns m (40 * w + g)) 0 else []
def LL (m : h_M) (w g : Nat) : Int := m 6 (40 * w + g)
theorem xl_app (x : Int) (a b : List Nat) (D : Nat → Int) : xl x (a ++ b) D = xl x b (xl x a D) := by
  induction a generalizing D with
  | nil => rfl
  | cons t a ih => exact ih _
theorem TT_lt {b : Nat} {c : h_C} {m : h_M} (h : RR b c m) {w : Nat} (hw : w < 3) (e1 : m 100 0 = (w : Int)) : ∀ g r, r ∈ TT c m w g → (r : Int) < m 3 w := by
  intro g r hr
  unfold TT at hr
  by_cases hg : (g : Int) < m 3 w
  · rw [if_pos hg] at hr
    have key : ∀ d k, r ∈ tf c w g d k → (r : Int) < m 3 w := by
      intro d
      induction d with
      | zero => intro k hk; cases hk
      | succ d ih =>
        intro k hk
        rcases List.mem_append.mp hk with z | z
        · obtain ⟨f, v, m', x1, _, _, x4⟩ := s_follow h hw e1 hg (k : Int) (by omega)
          unfold tk at z
          rw [x1] at z
          by_cases hc : 0 ≤ v ∧ c 0 (40 * w + v.toNat + 1) 0 < 9
          · simp only [if_pos hc] at z
            have : r = v.toNat := by simpa using z
            rcases x4 with ⟨_, t, y1, y2, _⟩ | ⟨y1, y2⟩
            · omega
            · omega
          · simp only [if_neg hc] at z
            cases z
        · exact ih (k + 1) z
    exact key _ _ hr
  · rw [if_neg hg] at hr
    cases hr
theorem TT_len {b : Nat} {c : h_C} {m : h_M} (h : RR b c m) {w : Nat} (hw : w < 3) : ∀ g, TT c m w g ≠ [] → 1 ≤ LL m w g := by
  intro g hg
  unfold TT at hg
  by_cases hl : (g : Int) < m 3 w
  · rw [if_pos hl] at hg
    obtain ⟨g40, i120, hj, eK, k0, k10, eL, l0, l8, lt, ln⟩ := h.gr hw hl
    refine lt ?_
    by_cases z : m 5 (40 * w + g) < 9
    · exact z
    · exfalso
      apply hg
      have : ns m (40 * w + g) = 0 := by
        unfold ns
        rw [if_neg (by omega), if_neg (by omega), if_pos (by omega)]
      rw [this]
      rfl
  · rw [if_neg hl] at hg
    exact absurd rfl hg
/-- the class's values, the reference's values -/
def cD (c : h_C) (w : Nat) (D : Nat → Int) : Prop := ∀ g, g < 40 → c 2038 w g = D g
def mD (m : h_M) (D : Nat → Int) : Prop := ∀ g, g < 40 → m 88 g = if D g = 1000000 then -1 else D g
theorem s_aheadC {b : Nat} {c0 : h_C} {m : h_M} (h : RR b c0 m) {w g : Nat} (hw : w < 3) (e1 : m 100 0 = (w : Int)) (hg : (g : Int) < m 3 w) (v : Int) {x : Int} (hx : p_w (v + m 6 (40 * w + g)) = x) : ∀ (d k fu : Nat) (c : h_C) (D : Nat → Int) (ch : Int), k + d = ns m (40 * w + g) → d < fu → eC [2038] c0 c → cD c w D → (ch = 0 ∨ ch = 1) → ∃ c' ch', GO_Works_goAhead_16 fu w v (40 * w + g + 1) ch (k : Int) c = some (ch', c') ∧ eC [2038] c0 c' ∧ cD c' w (xl x (tf c0 w g d k) D) ∧ (ch' = 0 ∨ ch' = 1) ∧ (ch' = 0 → ch = 0 ∧ xl x (tf c0 w g d k) D = D) := by
  obtain ⟨g40, i120, hj, eK, k0, k10, eL, l0, l8, lt, ln⟩ := h.gr hw hg
  have hns : sw_tab 1 (m 5 (40 * w + g)).toNat = (ns m (40 * w + g) : Int) := by
    rw [tab1 k0 k10]
    unfold ns
    repeat' split
    all_goals rfl
  have htl : (sw_tl 1 : Int) = 11 := rfl
  have g3 := (h.F.1 w).2.2
  intro d
  induction d with
  | zero =>
    intro k fu c D ch hd hf n hD hch
    obtain ⟨fu, rfl⟩ : ∃ g, fu = g + 1 := ⟨fu - 1, by omega⟩
    refine ⟨c, ch, ?_, n, hD, hch, fun z => ⟨z, rfl⟩⟩
    show GL_Works_goAhead_16 _ _ _ _ _ _ c = _
    unfold GL_Works_goAhead_16
    rw [gd1 hj, n 0 (by decide), eK, htl, gd1 (by omega), hns, if_pos (by omega), gd1 hch]
  | succ d ih =>
    intro k fu c D ch hd hf n hD hch
    obtain ⟨fu, rfl⟩ : ∃ g, fu = g + 1 := ⟨fu - 1, by omega⟩
    have hns3 : ns m (40 * w + g) ≤ 3 := by
      unfold ns
      repeat' split
      all_goals omega
    obtain ⟨f, u, _, x1, _, _, x4⟩ := s_follow h hw e1 hg (k : Int) (by omega)
    have nC : ∀ (c2 : h_C) (ch2 : Int), GB_Works_goAhead_91 (GO_Works_goAhead_16 fu) w v (40 * w + g + 1) ch2 (k : Int) c2 = GO_Works_goAhead_16 fu w v (40 * w + g + 1) ch2 ((k + 1 : Nat) : Int) c2 := fun c2 ch2 => by
      unfold GB_Works_goAhead_91
      rw [p_w1 (by omega) (by omega), bi1]
      rfl
    have hC : ∀ X, (if u < 0 then GO_Works_goAhead_16 fu w v (40 * w + g + 1) ch ((k + 1 : Nat) : Int) c else p_gd ((0 : Int) ≤ u ∧ u < (40 : Int)) <| q_bv (G_Gear_isTaker (40 * w + (u : Int).toNat + 1) c) fun r15 => if r15 = 0 then GO_Works_goAhead_16 fu w v (40 * w + g + 1) ch ((k + 1 : Nat) : Int) c else if (c 2038 w (u : Int).toNat) ≤ x then GO_Works_goAhead_16 fu w v (40 * w + g + 1) ch ((k + 1 : Nat) : Int) c else GO_Works_goAhead_16 fu w v (40 * w + g + 1) 1 ((k + 1 : Nat) : Int) (wc c 2038 w (u : Int).toNat x)) = X → GO_Works_goAhead_16 (fu + 1) w v (40 * w + g + 1) ch (k : Int) c = X := fun X hX => by
      show GL_Works_goAhead_16 _ _ _ _ _ _ c = _
      unfold GL_Works_goAhead_16
      rw [gd1 hj, n 0 (by decide), eK, htl, gd1 (by omega), hns, if_neg (by omega), gd1 hw, follow_fr n, x1, q_some, n 1 (by decide), eL, hx]
      simp only [bi1, nC]
      exact hX
    have htf : tf c0 w g (d + 1) k = tk c0 w g k ++ tf c0 w g d (k + 1) := rfl
    rcases x4 with ⟨_, t, y1, y2, _⟩ | ⟨y1, y2⟩
    · subst y1
      obtain ⟨t40, _, hjt, eKt, t0, t10, _⟩ := h.gr hw y2
      have hCt : G_Gear_isTaker (40 * w + (t : Int).toNat + 1) c = some (if m 5 (40 * w + t) < 9 then 1 else 0) := by
        rw [Int.toNat_natCast, s_cTaker hjt, n 0 (by decide), eKt]
        by_cases z : m 5 (40 * w + t) < 9
        · rw [if_pos ⟨t0, z⟩, if_pos z]
        · rw [if_neg (by omega), if_neg z]
      by_cases ht : m 5 (40 * w + t) < 9
      · have etk : tk c0 w g k = [t] := by
          unfold tk
          rw [x1]
          simp only [Int.toNat_natCast, eKt]
          rw [if_pos ⟨by omega, ht⟩]
        by_cases hle : D t ≤ x
        · obtain ⟨c', ch', z1, z2, z3, z4, z5⟩ := ih (k + 1) fu c D ch (by omega) (by omega) n hD hch
          have ex : xl x (tk c0 w g k) D = D := by
            rw [etk]
            funext r
            show (if r = t ∧ x < D t then x else D r) = D r
            rw [if_neg (by omega)]
          refine ⟨c', ch', hC _ ?_, z2, by rw [htf, xl_app, ex]; exact z3, z4, fun z => by rw [htf, xl_app, ex]; exact z5 z⟩
          rw [if_neg (by omega), gd1 (by omega), hCt, q_some, if_pos ht, if_neg (by decide), Int.toNat_natCast, hD t t40, if_pos hle]
          exact z1
        · have hD' : cD (wc c 2038 w t x) w (xl x (tk c0 w g k) D) := fun r hr => by
            rw [etk]
            show _ = (if r = t ∧ x < D t then x else D r)
            rw [wc_at]
            by_cases e : r = t
            · rw [if_pos ⟨rfl, rfl, e⟩, if_pos ⟨e, by omega⟩]
            · rw [if_neg (fun z => e z.2.2), if_neg (fun z => e z.1)]
              exact hD r hr
          obtain ⟨c', ch', z1, z2, z3, z4, z5⟩ := ih (k + 1) fu (wc c 2038 w t x) (xl x (tk c0 w g k) D) 1 (by omega) (by omega) (n.tr (by repeat first | exact eC.rf _ _ | refine eC.wc ?_ (by decide) _ _ _ | refine eC.sr ?_ (by decide) _ _)) hD' (Or.inr rfl)
          refine ⟨c', ch', hC _ ?_, z2, by rw [htf, xl_app]; exact z3, z4, fun z => absurd (z5 z).1 (by decide)⟩
          rw [if_neg (by omega), gd1 (by omega), hCt, q_some, if_pos ht, if_neg (by decide), Int.toNat_natCast, hD t t40, if_neg hle]
          exact z1
      · have etk : tk c0 w g k = [] := by
          unfold tk
          rw [x1]
          simp only [Int.toNat_natCast, eKt]
          rw [if_neg (fun z => ht z.2)]
        obtain ⟨c', ch', z1, z2, z3, z4, z5⟩ := ih (k + 1) fu c D ch (by omega) (by omega) n hD hch
        refine ⟨c', ch', hC _ ?_, z2, by rw [htf, etk]; exact z3, z4, fun z => by rw [htf, etk]; exact z5 z⟩
        rw [if_neg (by omega), gd1 (by omega), hCt, q_some, if_neg ht, if_pos rfl]
        exact z1
    · have etk : tk c0 w g k = [] := by
        unfold tk
        rw [x1]
        simp only
        rw [if_neg (by omega)]
      obtain ⟨c', ch', z1, z2, z3, z4, z5⟩ := ih (k + 1) fu c D ch (by omega) (by omega) n hD hch
      refine ⟨c', ch', hC _ ?_, z2, by rw [htf, etk]; exact z3, z4, fun z => by rw [htf, etk]; exact z5 z⟩
      rw [if_pos (by omega)]
      exact z1
theorem s_aheadM {b : Nat} {c : h_C} {m0 : h_M} (h : RR b c m0) {w g : Nat} (hw : w < 3) (e1 : m0 100 0 = (w : Int)) (hg : (g : Int) < m0 3 w) (v : Int) {x : Int} (hx : p_w (v + m0 6 (40 * w + g)) = x) (hx0 : 0 ≤ x) (hx1 : x < 1000000) : ∀ (d k fu : Nat) (m : h_M) (D : Nat → Int), k + d = ns m0 (40 * w + g) → d < fu → eM [173, 88] m0 m → mD m D → (∀ r, 0 ≤ D r) → ∃ m', GO_Mo_ahead_63 fu (g : Int) v ((40 * w + g : Nat) : Int) (ns m0 (40 * w + g) : Int) (k : Int) m = some m' ∧ eM [173, 88] m0 m' ∧ mD m' (xl x (tf c w g d k) D) := by
  obtain ⟨g40, i120, hj, eK, k0, k10, eL, l0, l8, lt, ln⟩ := h.gr hw hg
  have hns3 : ns m0 (40 * w + g) ≤ 3 := by
    unfold ns
    repeat' split
    all_goals omega
  intro d
  induction d with
  | zero =>
    intro k fu m D hd hf n hD h0
    obtain ⟨fu, rfl⟩ : ∃ g, fu = g + 1 := ⟨fu - 1, by omega⟩
    refine ⟨m, ?_, n, hD⟩
    show GL_Mo_ahead_63 _ _ _ _ _ _ m = _
    unfold GL_Mo_ahead_63
    rw [if_pos (by omega)]
  | succ d ih =>
    intro k fu m D hd hf n hD h0
    obtain ⟨fu, rfl⟩ : ∃ g, fu = g + 1 := ⟨fu - 1, by omega⟩
    have hR : RR b c m := h.scr [] [173, 88] (eC.rf _ _) n rfl rfl
    obtain ⟨f, u, m1, x1, x2, x3, x4⟩ := s_follow hR hw (by rw [n 100 (by decide)]; exact e1) (g := g) (by rw [n 3 (by decide)]; exact hg) (k : Int) (by omega)
    rw [n 3 (by decide)] at x4
    have n1 : eM [173, 88] m0 m1 := n.tr (x3.up (by decide))
    have hD1 : mD m1 D := fun r hr => by rw [x3 88 (by decide)]; exact hD r hr
    have nM : ∀ (m2 : h_M), GB_Mo_ahead_158 (GO_Mo_ahead_63 fu) (g : Int) v ((40 * w + g : Nat) : Int) (ns m0 (40 * w + g) : Int) (k : Int) m2 = GO_Mo_ahead_63 fu (g : Int) v ((40 * w + g : Nat) : Int) (ns m0 (40 * w + g) : Int) ((k + 1 : Nat) : Int) m2 := fun m2 => by
      unfold GB_Mo_ahead_158
      rw [p_w1 (by omega) (by omega), bi1]
      rfl
    have htf : tf c w g (d + 1) k = tk c w g k ++ tf c w g d (k + 1) := rfl
    rcases x4 with ⟨f0, t, y1, y2, y3⟩ | ⟨y1, y2⟩
    · subst y1
      subst f0
      obtain ⟨t40, it, hjt, eKt, t0, t10, _⟩ := h.gr hw y2
      have e100 : m1 100 0 = (w : Int) := by rw [n1 100 (by decide)]; exact e1
      have hM : ∀ X, (if m0 5 (40 * w + t) < 9 then (if m1 88 t < 0 then GO_Mo_ahead_63 fu (g : Int) v ((40 * w + g : Nat) : Int) (ns m0 (40 * w + g) : Int) ((k + 1 : Nat) : Int) (wm m1 88 t x) else if m1 88 t ≤ x then GO_Mo_ahead_63 fu (g : Int) v ((40 * w + g : Nat) : Int) (ns m0 (40 * w + g) : Int) ((k + 1 : Nat) : Int) (wm m1 88 t (m1 88 t)) else GO_Mo_ahead_63 fu (g : Int) v ((40 * w + g : Nat) : Int) (ns m0 (40 * w + g) : Int) ((k + 1 : Nat) : Int) (wm m1 88 t x)) else GO_Mo_ahead_63 fu (g : Int) v ((40 * w + g : Nat) : Int) (ns m0 (40 * w + g) : Int) ((k + 1 : Nat) : Int) m1) = X → GO_Mo_ahead_63 (fu + 1) (g : Int) v ((40 * w + g : Nat) : Int) (ns m0 (40 * w + g) : Int) (k : Int) m = X := fun X hX => by
        show GL_Mo_ahead_63 _ _ _ _ _ _ m = _
        unfold GL_Mo_ahead_63 GB_Mo_ahead_143 GB_Mo_ahead_157
        rw [if_neg (by omega), x2, q_some2, if_neg (by decide), y3, s_g hw e100 t40, q_some, gd1 (by omega), Int.toNat_natCast, n1 5 (by decide), s_mTaker, q_some, gd1 (by omega), Int.toNat_natCast, n1 6 (by decide), hx, bi1, gd1 (by omega), gd1 (by omega), gd1 (by omega), Int.toNat_natCast]
        simp only [bi1, nM]
        rw [← hX]
        by_cases z : m0 5 (40 * w + t) < 9
        · simp only [if_pos z]
          rw [if_neg (by decide)]
        · simp only [if_neg z, if_true]
      by_cases ht : m0 5 (40 * w + t) < 9
      · have etk : tk c w g k = [t] := by
          unfold tk
          rw [x1]
          simp only [Int.toNat_natCast, eKt]
          rw [if_pos ⟨by omega, ht⟩]
        have h88 := hD1 t t40
        have hset : x < D t → mD (wm m1 88 t x) (xl x (tk c w g k) D) := fun hlt r hr => by
          have ev : xl x (tk c w g k) D r = if r = t then x else D r := by
            rw [etk]
            show (if r = t ∧ x < D t then x else D r) = _
            by_cases e : r = t
            · rw [if_pos ⟨e, hlt⟩, if_pos e]
            · rw [if_neg (fun z => e z.1), if_neg e]
          have ew : wm m1 88 t x 88 r = if r = t then x else m1 88 r := by
            rw [wm_at]
            by_cases e : r = t
            · rw [if_pos ⟨rfl, e⟩, if_pos e]
            · rw [if_neg (fun z => e z.2), if_neg e]
          rw [ev, ew]
          by_cases e : r = t
          · simp only [if_pos e]
            rw [if_neg (show ¬ x = 1000000 by omega)]
          · simp only [if_neg e]
            exact hD1 r hr
        have h0' : ∀ r, 0 ≤ xl x (tk c w g k) D r := fun r => by
          rcases xl_or x (tk c w g k) D r with z | ⟨_, z⟩
          · rw [z]; exact h0 r
          · rw [z]; exact hx0
        by_cases hle : D t ≤ x
        · have ex : xl x (tk c w g k) D = D := by
            rw [etk]
            funext r
            show (if r = t ∧ x < D t then x else D r) = D r
            rw [if_neg (by omega)]
          obtain ⟨m', z1, z2, z3⟩ := ih (k + 1) fu m1 D (by omega) (by omega) n1 hD1 h0
          refine ⟨m', hM _ ?_, z2, by rw [htf, xl_app, ex]; exact z3⟩
          have hd := h0 t
          rw [if_neg (by omega)] at h88
          rw [if_pos ht, if_neg (by omega), if_pos (by omega), wm_same rfl]
          exact z1
        · obtain ⟨m', z1, z2, z3⟩ := ih (k + 1) fu (wm m1 88 t x) (xl x (tk c w g k) D) (by omega) (by omega) (n1.tr (eM.up (l := [88]) (by repeat first | exact eM.rf _ _ | refine eM.wm ?_ (by decide) _ _) (by decide))) (hset (by omega)) h0'
          refine ⟨m', hM _ ?_, z2, by rw [htf, xl_app]; exact z3⟩
          rw [if_pos ht]
          by_cases hi : D t = 1000000
          · rw [if_pos hi] at h88
            rw [if_pos (by omega)]
            exact z1
          · have hd := h0 t
            rw [if_neg hi] at h88
            rw [if_neg (by omega), if_neg (by omega)]
            exact z1
      · have etk : tk c w g k = [] := by
          unfold tk
          rw [x1]
          simp only [Int.toNat_natCast, eKt]
          rw [if_neg (fun z => ht z.2)]
        obtain ⟨m', z1, z2, z3⟩ := ih (k + 1) fu m1 D (by omega) (by omega) n1 hD1 h0
        refine ⟨m', hM _ ?_, z2, by rw [htf, etk]; exact z3⟩
        rw [if_neg ht]
        exact z1
    · have etk : tk c w g k = [] := by
        unfold tk
        rw [x1]
        simp only
        rw [if_neg (by omega)]
      obtain ⟨m', z1, z2, z3⟩ := ih (k + 1) fu m1 D (by omega) (by omega) n1 hD1 h0
      refine ⟨m', ?_, z2, by rw [htf, etk]; exact z3⟩
      show GL_Mo_ahead_63 _ _ _ _ _ _ m = _
      unfold GL_Mo_ahead_63
      rw [if_neg (by omega), x2, q_some2, if_pos (by omega), nM]
      exact z1
theorem s_goAhead {b : Nat} {c0 : h_C} {m : h_M} (h : RR b c0 m) {w g : Nat} (hw : w < 3) (e1 : m 100 0 = (w : Int)) (hg : (g : Int) < m 3 w) {v : Int} (hv : 0 ≤ v ∧ v < 900000) {c : h_C} {D : Nat → Int} (n : eC [2038] c0 c) (hD : cD c w D) : ∃ c' ch', G_Works_goAhead w (g : Int) v c = some (ch', c') ∧ eC [2038] c0 c' ∧ cD c' w (xl (v + LL m w g) (TT c0 m w g) D) ∧ (ch' = 0 ∨ ch' = 1) ∧ (ch' = 0 → xl (v + LL m w g) (TT c0 m w g) D = D) := by
  obtain ⟨g40, i120, hj, eK, k0, k10, eL, l0, l8, lt, ln⟩ := h.gr hw hg
  have hns3 : ns m (40 * w + g) ≤ 3 := by
    unfold ns
    repeat' split
    all_goals omega
  obtain ⟨c', ch', z1, z2, z3, z4, z5⟩ := s_aheadC h hw e1 hg v (x := v + LL m w g) (by rw [p_w1 (by omega) (by omega)]; rfl) (ns m (40 * w + g)) 0 3000 c D 0 (by omega) (by omega) n hD (Or.inl rfl)
  have eT : TT c0 m w g = tf c0 w g (ns m (40 * w + g)) 0 := by unfold TT; rw [if_pos hg]
  rw [eT]
  refine ⟨c', ch', ?_, z2, z3, z4, fun z => (z5 z).2⟩
  unfold G_Works_goAhead
  rw [gd1 hw, gd1 (by omega), Int.toNat_natCast]
  exact z1
theorem s_ahead {b : Nat} {c : h_C} {m0 : h_M} (h : RR b c m0) {w g : Nat} (hw : w < 3) (e1 : m0 100 0 = (w : Int)) (hg : (g : Int) < m0 3 w) {v : Int} (hv : 0 ≤ v ∧ v < 900000) {m : h_M} {D : Nat → Int} (n : eM [173, 88] m0 m) (hD : mD m D) (h0 : ∀ r, 0 ≤ D r) : ∃ m', G_Mo_ahead (g : Int) v m = some m' ∧ eM [173, 88] m0 m' ∧ mD m' (xl (v + LL m0 w g) (TT c m0 w g) D) := by
  obtain ⟨g40, i120, hj, eK, k0, k10, eL, l0, l8, lt, ln⟩ := h.gr hw hg
  have hns3 : ns m0 (40 * w + g) ≤ 3 := by
    unfold ns
    repeat' split
    all_goals omega
  obtain ⟨m', z1, z2, z3⟩ := s_aheadM h hw e1 hg v (x := v + LL m0 w g) (by rw [p_w1 (by omega) (by omega)]; rfl) (by unfold LL; omega) (by unfold LL; omega) (ns m0 (40 * w + g)) 0 3000 m D (by omega) (by omega) n hD h0
  have eT : TT c m0 w g = tf c w g (ns m0 (40 * w + g)) 0 := by unfold TT; rw [if_pos hg]
  rw [eT]
  refine ⟨m', ?_, z2, z3⟩
  unfold G_Mo_ahead GB_Mo_ahead_29 GB_Mo_ahead_58
  rw [s_g hw (by rw [n 100 (by decide)]; exact e1) g40, q_some, gd1 (by omega), Int.toNat_natCast, n 5 (by decide), s_mTaker, q_some, s_mDivert, q_some, s_mSides, q_some]
  have hn : (if (if m0 5 (40 * w + g) < 9 then (1 : Int) else 0) = 0 then GO_Mo_ahead_63 3000 (g : Int) v ((40 * w + g : Nat) : Int) 0 0 m else if m0 5 (40 * w + g) ≠ 7 then (if (if m0 5 (40 * w + g) = 5 ∨ m0 5 (40 * w + g) = 6 then (1 : Int) else 0) = 0 then GO_Mo_ahead_63 3000 (g : Int) v ((40 * w + g : Nat) : Int) 1 0 m else GO_Mo_ahead_63 3000 (g : Int) v ((40 * w + g : Nat) : Int) (if m0 5 (40 * w + g) = 5 then 2 else if m0 5 (40 * w + g) = 6 then 3 else 0) 0 m) else GO_Mo_ahead_63 3000 (g : Int) v ((40 * w + g : Nat) : Int) 0 0 m) = GO_Mo_ahead_63 3000 (g : Int) v ((40 * w + g : Nat) : Int) (ns m0 (40 * w + g) : Int) 0 m := by
    unfold ns
    by_cases a1 : m0 5 (40 * w + g) < 9
    · simp only [if_pos a1]
      rw [if_neg (by decide)]
      by_cases a2 : m0 5 (40 * w + g) = 7
      · rw [if_neg (by omega), if_neg (by omega), if_neg (by omega), if_pos (by omega)]
        rfl
      · rw [if_pos a2]
        by_cases a3 : m0 5 (40 * w + g) = 5
        · simp [a3]
        · by_cases a4 : m0 5 (40 * w + g) = 6
          · simp [a4]
          · simp only [if_neg (show ¬ (m0 5 (40 * w + g) = 5 ∨ m0 5 (40 * w + g) = 6) by omega), if_neg a3, if_neg a4, if_neg (show ¬ (m0 5 (40 * w + g) = 7 ∨ m0 5 (40 * w + g) = 9 ∨ m0 5 (40 * w + g) = 10) by omega)]
            rfl
    · simp only [if_neg a1, if_true]
      rw [if_neg (show ¬ m0 5 (40 * w + g) = 5 by omega), if_neg (show ¬ m0 5 (40 * w + g) = 6 by omega), if_pos (show m0 5 (40 * w + g) = 7 ∨ m0 5 (40 * w + g) = 9 ∨ m0 5 (40 * w + g) = 10 by omega)]
      rfl
  exact hn.trans z1
