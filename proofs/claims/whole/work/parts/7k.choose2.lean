theorem s_wayM {b : Nat} {c : h_C} {m : h_M} (h : RR b c m) {w g t : Nat} (hw : w < 3) (e1 : m 100 0 = (w : Int)) (hg : (g : Int) < m 3 w) (k22 : Int → Int → Int → Int → Int → Int → h_M → Option (Int × h_M)) (v2 v3 v4 v5 : Int) : ∃ m2, eM [173] m m2 ∧ GL_Mo_chosenBy_22 k22 (t : Int) v2 v3 v4 v5 (g : Int) m = GB_Mo_chosenBy_144 k22 (t : Int) v2 v3 v4 v5 (g : Int) ((40 * w + g : Nat) : Int) (if vt m w g = (t : Int) then 1 else 0) m2 := by
  obtain ⟨g40, i120, hj, eK, k0, k10, eL, l0, l8, lt, ln⟩ := h.gr hw hg
  have i12 : (0 : Int) ≤ ((40 * w + g : Nat) : Int) ∧ ((40 * w + g : Nat) : Int) < 120 := by omega
  have no : ¬ rdy m w (40 * w + g) → GB_Mo_chosenBy_143 k22 (t : Int) v2 v3 v4 v5 (g : Int) ((40 * w + g : Nat) : Int) m = GB_Mo_chosenBy_144 k22 (t : Int) v2 v3 v4 v5 (g : Int) ((40 * w + g : Nat) : Int) (if vt m w g = (t : Int) then 1 else 0) m := by
    intro hr
    unfold vt GB_Mo_chosenBy_143
    rw [if_neg hr, if_neg (show ¬ ((-1 : Int) = (t : Int)) by omega)]
  unfold GL_Mo_chosenBy_22
  rw [e1, gd1 (by omega), Int.toNat_natCast, if_neg (show ¬ m 3 w ≤ (g : Int) by omega), s_g hw e1 g40, q_some, gd1 i12, Int.toNat_natCast, s_mTaker, q_some, s_act hw e1 i120, q_some]
  by_cases k9 : m 5 (40 * w + g) < 9
  case neg =>
    rw [if_neg k9, if_pos rfl]
    exact ⟨m, eM.rf _ _, no (fun z => k9 z.1)⟩
  have len1 := lt k9
  rw [if_pos k9, if_neg (show ¬ ((1 : Int) = 0) by decide)]
  by_cases k7 : m 5 (40 * w + g) = 7
  · rw [if_pos k7]
    exact ⟨m, eM.rf _ _, no (fun z => z.2.1 k7)⟩
  rw [if_neg k7]
  by_cases ac : p_rem (m 4 w) (if m 5 (40 * w + g) = 1 ∨ m 5 (40 * w + g) = 4 then 2 else 1) = 0
  case neg =>
    rw [if_pos ac, if_pos rfl]
    exact ⟨m, eM.rf _ _, no (fun z => ac z.2.2.1)⟩
  rw [if_neg (show ¬ (p_rem (m 4 w) (if m 5 (40 * w + g) = 1 ∨ m 5 (40 * w + g) = 4 then 2 else 1) ≠ 0) from fun z => z ac), if_neg (show ¬ ((1 : Int) = 0) by decide), p_w1 (x := 8 * ((40 * w + g : Nat) : Int)) (by omega) (by omega), p_w1 (x := 8 * ((40 * w + g : Nat) : Int) + m 6 (40 * w + g)) (by omega) (by omega), p_w1 (x := 8 * ((40 * w + g : Nat) : Int) + m 6 (40 * w + g) - 1) (by omega) (by omega), gd1 (show (0 : Int) ≤ 8 * ((40 * w + g : Nat) : Int) + m 6 (40 * w + g) - 1 ∧ 8 * ((40 * w + g : Nat) : Int) + m 6 (40 * w + g) - 1 < 960 by omega), show (8 * ((40 * w + g : Nat) : Int) + m 6 (40 * w + g) - 1).toNat = 8 * (40 * w + g) + (m 6 (40 * w + g) - 1).toNat by omega]
  by_cases ps : m 22 (8 * (40 * w + g) + (m 6 (40 * w + g) - 1).toNat) ≤ 0
  · rw [if_pos ps]
    exact ⟨m, eM.rf _ _, no (fun z => by have := z.2.2.2.1; omega)⟩
  rw [if_neg ps]
  have yes : ¬ (m 5 (40 * w + g) = 8 ∧ m 13 (40 * w + g) ≤ 0) → ∃ m2, eM [173] m m2 ∧ GB_Mo_chosenBy_123 k22 (t : Int) v2 v3 v4 v5 (g : Int) ((40 * w + g : Nat) : Int) m = GB_Mo_chosenBy_144 k22 (t : Int) v2 v3 v4 v5 (g : Int) ((40 * w + g : Nat) : Int) (if vt m w g = (t : Int) then 1 else 0) m2 := by
    intro h8
    have hr : rdy m w (40 * w + g) := ⟨k9, k7, ac, by omega, h8⟩
    obtain ⟨l3, le⟩ := lk3 h (40 * w + g)
    obtain ⟨l, x0, x3, y1, y2⟩ := s_linkAt h hw e1 hg
    have el : l = (lk m (40 * w + g) : Int) := by
      obtain ⟨⟨a1, _⟩, _⟩ := h.G.1 (40 * w + g)
      rw [s_cLinkAhead hj, eK, a1, ← le] at y1
      exact (Option.some.inj y1).symm
    subst el
    obtain ⟨f, v, m2, z1, z2, z3, z4⟩ := s_follow h hw e1 hg (lk m (40 * w + g) : Int) x0
    rw [s_fo h hw hg l3] at z1
    have ev : fo m w g (lk m (40 * w + g)) = v := Option.some.inj z1
    refine ⟨m2, z3, ?_⟩
    unfold GB_Mo_chosenBy_123 G_Mo_leads vt GB_Mo_chosenBy_143
    rw [y2, q_some, z2, q_some2, if_pos hr, ev]
    rcases z4 with ⟨rfl, t', rfl, t3, t4⟩ | ⟨hf, rfl⟩
    · rw [if_neg (show ¬ ((0 : Int) ≠ 0) by decide), t4]
      by_cases e : (t' : Int) = (t : Int)
      · rw [if_neg (show ¬ (t' : Int) ≠ (t : Int) from fun z => z e), q_some2, if_neg (show ¬ ((1 : Int) = 0) by decide), if_pos e]
      · rw [if_pos e, q_some2, if_pos rfl, if_neg e]
    · rw [if_pos (show f ≠ 0 by omega), q_some2, if_pos rfl, if_neg (by omega)]
  by_cases h8 : m 5 (40 * w + g) = 8
  · rw [if_neg (show ¬ m 5 (40 * w + g) ≠ 8 from fun z => z h8)]
    by_cases h13 : m 13 (40 * w + g) ≤ 0
    · rw [if_pos h13]
      exact ⟨m, eM.rf _ _, no (fun z => z.2.2.2.2 ⟨h8, h13⟩)⟩
    · rw [if_neg h13]
      exact yes (fun z => h13 z.2)
  · rw [if_pos h8]
    exact yes (fun z => h8 z.1)
/-- what the reference holds of a merge's choice, gear by gear -/
def ust (u : Int × Int × Int) (last g rank : Int) : Int × Int × Int :=
  if rank ≤ u.2.2 then (if rank ≠ u.2.2 then u else if 0 ≤ u.1 then u else if g ≤ last then u else if last < 0 then u else (g, u.2.1, u.2.2)) else (if g ≤ last then (-1, g, rank) else if last < 0 then (-1, g, rank) else (g, g, rank))
def U (m : h_M) (w t : Nat) : Nat → Int × Int × Int
  | 0 => (-1, -1, -1)
  | g + 1 => if vt m w g = (t : Int) then ust (U m w t g) (m 12 (40 * w + t)) (g : Int) (m 9 (40 * w + g)) else U m w t g
def ures (u : Int × Int × Int) : Int := if u.1 < 0 then u.2.1 else u.1
theorem U_fr {m m' : h_M} {l : List Nat} (h : eM l m m') (d : dj [3, 4, 5, 6, 7, 8, 10, 13, 22, 12, 9] l) (w t n : Nat) : U m' w t n = U m w t n := by
  have hv : ∀ g, vt m' w g = vt m w g := vt_fr h (by
    have h2 : ∀ f ∈ [3, 4, 5, 6, 7, 8, 10, 13, 22], f ∉ l := fun f hf => d.at ((show ∀ f ∈ [3, 4, 5, 6, 7, 8, 10, 13, 22], f ∈ [3, 4, 5, 6, 7, 8, 10, 13, 22, 12, 9] by decide) f hf)
    unfold dj
    rw [List.all_eq_true]
    intro f hf
    simpa using h2 f hf) w
  have r12 : m' 12 = m 12 := h.of (f := 12) (s := [3, 4, 5, 6, 7, 8, 10, 13, 22, 12, 9]) (by decide) d
  have r9 : m' 9 = m 9 := h.of (f := 9) (s := [3, 4, 5, 6, 7, 8, 10, 13, 22, 12, 9]) (by decide) d
  induction n with
  | zero => rfl
  | succ n ih =>
    unfold U
    rw [ih, hv, r12, r9]
theorem s_chosen {b : Nat} {c : h_C} {m : h_M} (h : RR b c m) {w t : Nat} (hw : w < 3) (e1 : m 100 0 = (w : Int)) (ht : (t : Int) < m 3 w) {n : Nat} (hn : m 3 w = (n : Int)) : ∃ m', G_Mo_chosenBy (t : Int) m = some (ures (U m w t n), m') ∧ eM [173] m m' := by
  obtain ⟨t40, i120t, _⟩ := h.gr hw ht
  have n40 : n ≤ 40 := by have := (h.F.1 w).2.2; omega
  have key : ∀ (d g fu : Nat) (m1 : h_M), g + d = n → d < fu → eM [173] m m1 → ∃ m', GO_Mo_chosenBy_22 fu (t : Int) (U m w t g).1 (U m w t g).2.1 (U m w t g).2.2 (m 12 (40 * w + t)) (g : Int) m1 = some (ures (U m w t n), m') ∧ eM [173] m m' := by
    intro d
    induction d with
    | zero =>
      intro g fu m1 hd hf y
      obtain ⟨fu, rfl⟩ : ∃ g, fu = g + 1 := ⟨fu - 1, by omega⟩
      obtain rfl : g = n := by omega
      refine ⟨m1, ?_, y⟩
      show GL_Mo_chosenBy_22 _ _ _ _ _ _ _ m1 = _
      unfold GL_Mo_chosenBy_22 ures
      rw [y 100 (by decide), e1, gd1 (by omega), Int.toNat_natCast, y 3 (by decide), hn, if_pos (by omega)]
      split <;> rfl
    | succ d ih =>
      intro g fu m1 hd hf y
      obtain ⟨fu, rfl⟩ : ∃ g, fu = g + 1 := ⟨fu - 1, by omega⟩
      have h1 : RR b c m1 := h.scr [] [173] (eC.rf _ _) y rfl rfl
      have hg1 : (g : Int) < m1 3 w := by rw [y 3 (by decide), hn]; omega
      have e11 : m1 100 0 = (w : Int) := by rw [y 100 (by decide)]; exact e1
      have bp : p_w ((g : Int) + 1) = ((g + 1 : Nat) : Int) := p_w1 (by omega) (by omega)
      obtain ⟨m2, x1, x2⟩ := s_wayM (t := t) h1 hw e11 hg1 (GO_Mo_chosenBy_22 fu) (U m w t g).1 (U m w t g).2.1 (U m w t g).2.2 (m 12 (40 * w + t))
      have y2 : eM [173] m m2 := y.tr x1
      obtain ⟨m', z1, z2⟩ := ih (g + 1) fu m2 (by omega) (by omega) y2
      refine ⟨m', ?_, z2⟩
      rw [← z1]
      refine Eq.trans (show _ = GL_Mo_chosenBy_22 (GO_Mo_chosenBy_22 fu) _ _ _ _ _ _ m1 from rfl) (x2.trans ?_)
      rw [vt_fr y rfl]
      have i12 : (0 : Int) ≤ ((40 * w + g : Nat) : Int) ∧ ((40 * w + g : Nat) : Int) < 120 := by omega
      conv => rhs; unfold U
      by_cases hit : vt m w g = (t : Int)
      · rw [if_pos hit, if_pos hit]
        unfold GB_Mo_chosenBy_144 GB_Mo_chosenBy_197 GB_Mo_chosenBy_192 GB_Mo_chosenBy_193 GB_Mo_chosenBy_233 ust
        simp only [if_neg (show ¬ ((1 : Int) = 0) by decide), gd1 i12, Int.toNat_natCast, y2 9 (by decide), bp, bi1]
        repeat' split
        all_goals first | rfl | omega
      · rw [if_neg hit, if_neg hit]
        unfold GB_Mo_chosenBy_144 GB_Mo_chosenBy_197 GB_Mo_chosenBy_233
        rw [if_pos rfl, if_pos rfl, bp, bi1]
  obtain ⟨m', z1, z2⟩ := key n 0 3000 m (by omega) (by omega) (eM.rf _ _)
  refine ⟨m', ?_, z2⟩
  unfold G_Mo_chosenBy
  rw [s_g hw e1 t40, q_some, gd1 (by omega), Int.toNat_natCast, bi1]
  exact z1
