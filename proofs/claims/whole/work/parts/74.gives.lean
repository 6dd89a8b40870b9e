theorem CH.fr {c c' : h_C} {m m' : h_M} {w : Nat} (h : CH c m w) (h1 : c' 19 = c 19) (h2 : m' 3 = m 3) (h3 : m' 74 = m 74) : CH c' m' w := by
  intro g hg
  rw [h1, h3]
  exact h g (by rw [← h2]; exact hg)
theorem ZZ.mv {b : Nat} {c : h_C} {m : h_M} {w : Nat} {F L : Int} (h : ZZ b c m w F L) {pl q : Nat} (p1 : 1 ≤ pl) (p30 : pl ≤ 30) (hq : 1 ≤ q) (ep : c 101 (31 * w + pl) 0 = (q : Int)) : ZZ b (wc c 108 (31 * w + pl) 0 1) (wm m 36 q 1) w F L := by
  obtain ⟨hR, ⟨hw, h2, h3, h4, h5, h6⟩, h7, h8, h9, h10⟩ := h
  have hR' := hR.scr [108] [36] (c' := wc c 108 (31 * w + pl) 0 1) (m' := wm m 36 q 1) (by repeat first | exact eC.rf _ _ | refine eC.wc ?_ (by decide) _ _ _ | refine eC.sr ?_ (by decide) _ _) (by repeat first | exact eM.rf _ _ | refine eM.wm ?_ (by decide) _ _) rfl rfl
  refine ⟨hR', ⟨hw, by simp [wm_at, h2], by simp [wc_at, h3], by simp [wc_at, h4], by simp [wc_at, h5], by simp [wc_at, h6]⟩, fun pl' q' a b' a' e' => ?_, ?_, by simp [wc_at, h9], by simpa [wm_at] using h10⟩
  · have e' : c 101 (31 * w + pl') 0 = (q' : Int) := by simpa [wc_at] using e'
    by_cases z : pl' = pl
    · subst z
      obtain rfl : q' = q := by omega
      simp [wc_at, wm_at]
    · have z2 : q' ≠ q := fun y => by
        subst y
        exact z (hR.uniq hw a b' p1 p30 a' e' ep)
      simpa [wc_at, wm_at, z, z2] using h7 pl' q' a b' a' e'
  · simpa [FD, wc_at, wm_at] using h8
theorem ZZ.more {b b' : Nat} {c : h_C} {m : h_M} {w : Nat} {F L : Int} (h : ZZ b c m w F L) (hb : b ≤ b') : ZZ b' c m w F L := h.of hb (h.1.more hb) (fun _ _ => rfl) (fun _ _ => rfl)
/-- rows that giving a parcel may change -/
def gC : List Nat := [2005, 403, 804, 12, 211, 2037, 15, 6, 2012, 11, 10, 105, 106, 107, 2014, 109, 108, 101, 302, 2040]
def gM : List Nat := [173, 43, 42, 102, 172, 20, 44, 45, 12, 10, 22, 19, 18, 26, 27, 35, 34, 33, 36, 25, 37, 38, 40, 41]
theorem ZZ.gives {b : Nat} (hb : b < 1000000000) {c : h_C} {m : h_M} {w : Nat} {F L : Int} (h : ZZ b c m w F L) (hCH : CH c m w) {g pl q : Nat} (hg : (g : Int) < m 3 w) (ha : m 171 0 = (g : Int)) (p1 : 1 ≤ pl) (p30 : pl ≤ 30) (hq : 1 ≤ q) (ep : c 101 (31 * w + pl) 0 = (q : Int)) : ∃ r c' m', G_Step_giveOn (g : Int) (40 * w + g + 1) (31 * w + pl) c = some (r, c') ∧ G_Mo_gives (g : Int) (q : Int) m = some (r, m') ∧ (r = 0 ∨ r = 1) ∧ ZZ (b + 3) c' m' w F L ∧ eC gC c c' ∧ eM gM m m' := by
  obtain ⟨hR, ⟨hw, e1, e2, e3, e4, e5⟩, _⟩ := id h
  obtain ⟨g40, i120, hj, eK, _⟩ := hR.gr hw hg
  have hp := hR.po hw p1 p30 hq ep
  have n2 := hR.N.2.2.1
  have qn := hp.1.1.2.1
  have hvp : vP (31 * w + pl) := ⟨by omega, by omega⟩
  obtain ⟨l, l0, l3, x1, x2⟩ := s_linkAt hR hw e1 hg
  obtain ⟨f, v, m1, y1, y2, y3, y4⟩ := s_follow hR hw e1 hg l l0
  have h1 : ZZ b c m1 w F L := h.scr (lc := []) (lm := [173]) (eC.rf _ _) y3 rfl rfl rfl rfl
  have ha1 : m1 171 0 = (g : Int) := by rw [y3 171 (by decide)]; exact ha
  have g31 : (g : Int) < m1 3 w := by rw [y3 3 (by decide)]; exact hg
  -- a finding
  have fin : ∀ f' : Int, 1 ≤ f' ∧ f' ≤ 6 → ∀ v4 x4 : Int, ∃ c' m', GB_Step_giveOn_46 (g : Int) (31 * w + pl) v4 (-10 - f') c = some (0, c') ∧ GB_Mo_gives_40 (g : Int) (q : Int) f' x4 m1 = some (0, m') ∧ ZZ (b + 3) c' m' w F L ∧ eC gC c c' ∧ eM gM m m' := by
    intro f' hf' v4 x4
    obtain ⟨c', m', z1, z2, z3, z4, z5, _⟩ := h1.fi (by omega) (g : Int) 1 f' (q : Int) hf' (Or.inr ⟨by omega, g31, ha1⟩)
    rw [if_neg (by omega)] at z1
    refine ⟨c', m', ?_, ?_, z3.more (by omega), z4.up (by decide), (y3.up (by decide)).tr (z5.up (by decide))⟩
    · unfold GB_Step_giveOn_46
      rw [if_neg (by omega), gd1 hvp, ep, z1, q_some]
    · unfold GB_Mo_gives_40
      rw [if_neg (by omega), z2, q_some]
  have hCg : ∀ X, (if 0 ≤ v then (q_bv (G_Gear_isTaker (40 * w + v.toNat + 1) c) fun r19 => if r19 = 0 then GB_Step_giveOn_46 (g : Int) (31 * w + pl) v (-12) c else GB_Step_giveOn_46 (g : Int) (31 * w + pl) v 0 c) else GB_Step_giveOn_46 (g : Int) (31 * w + pl) v v c) = X → (0 ≤ v → v < 40) → G_Step_giveOn (g : Int) (40 * w + g + 1) (31 * w + pl) c = X := by
    intro X hX hv
    unfold G_Step_giveOn
    rw [e4, e5, Int.toNat_natCast, gd1 (by omega), gd1 hj, x1, q_some, y1, q_some, ← hX]
    by_cases z : 0 ≤ v
    · rw [if_pos z, if_pos z, gd1 (by omega), gd1 (show 0 ≤ v ∧ v < 40 from ⟨z, hv z⟩)]
    · rw [if_neg z, if_neg z]
  rcases y4 with ⟨rfl, t, rfl, t3, t4⟩ | ⟨hf, rfl⟩
  case inr =>
    obtain ⟨c', m', z1, z2, z3, z4, z5⟩ := fin f (by omega) (-10 - f) (m1 173 0)
    refine ⟨0, c', m', hCg _ ?_ (by omega), ?_, Or.inl rfl, z3, z4, z5⟩
    · rw [if_neg (by omega)]; exact z1
    · unfold G_Mo_gives
      rw [x2, q_some, y2, q_some2, bi1, if_pos (by omega)]
      exact z2
  obtain ⟨t40, i120t, hjt, eKt, kt0, kt10, _⟩ := hR.gr hw t3
  have hMg : ∀ X, (if m 5 (40 * w + t) < 9 then GB_Mo_gives_40 (g : Int) (q : Int) 0 (t : Int) m1 else GB_Mo_gives_40 (g : Int) (q : Int) 2 (t : Int) m1) = X → G_Mo_gives (g : Int) (q : Int) m = X := by
    intro X hX
    unfold G_Mo_gives
    rw [x2, q_some, y2, q_some2, bi1, if_neg (by simp), t4, s_g hw (by rw [y3 100 (by decide)]; exact e1) t40, q_some, gd1 (by omega), Int.toNat_natCast, y3 5 (by decide), s_mTaker, q_some, ← hX]
    by_cases z : m 5 (40 * w + t) < 9
    · rw [if_pos z, if_pos z, if_pos (by decide)]
    · rw [if_neg z, if_neg z, if_neg (by decide)]
  have hCt : ∀ X, (if m 5 (40 * w + t) < 9 then GB_Step_giveOn_46 (g : Int) (31 * w + pl) (t : Int) 0 c else GB_Step_giveOn_46 (g : Int) (31 * w + pl) (t : Int) (-12) c) = X → G_Step_giveOn (g : Int) (40 * w + g + 1) (31 * w + pl) c = X := by
    intro X hX
    refine hCg X ?_ (by omega)
    rw [if_pos (by omega), Int.toNat_natCast, s_cTaker hjt, eKt, q_some, ← hX]
    by_cases z : m 5 (40 * w + t) < 9
    · rw [if_pos z, show (if 0 ≤ m 5 (40 * w + t) ∧ m 5 (40 * w + t) < 9 then (1 : Int) else 0) = 1 from if_pos ⟨kt0, z⟩, if_neg (by decide)]
    · rw [if_neg z, show (if 0 ≤ m 5 (40 * w + t) ∧ m 5 (40 * w + t) < 9 then (1 : Int) else 0) = 0 from if_neg (fun y => z y.2), if_pos rfl]
  by_cases kt : m 5 (40 * w + t) < 9
  case neg =>
    obtain ⟨c', m', z1, z2, z3, z4, z5⟩ := fin 2 (by omega) (t : Int) (t : Int)
    exact ⟨0, c', m', hCt _ (by rw [if_neg kt]; exact z1), hMg _ (by rw [if_neg kt]; exact z2), Or.inl rfl, z3, z4, z5⟩
  have hp1 : PO b c m1 w pl q := hp.fr (fun _ _ => rfl) (fun f hf => y3.of hf rfl)
  have hCH1 : CH c m1 w := hCH.fr rfl (y3 3 (by decide)) (y3 74 (by decide))
  obtain ⟨r, c2, m2, z1, z2, z3, z4, z5, z6, z7⟩ := h1.takes (by omega) hCH1 (t := t) (g := g) (by rw [y3 3 (by decide)]; exact t3) (by rw [y3 5 (by decide)]; exact kt) g31 p1 p30 hp1
  have nC2 : eC gC c c2 := z6.up (by decide)
  have nM2 : eM gM m m2 := (y3.up (by decide)).tr (z7.up (by decide))
  rcases z3 with rfl | rfl
  · refine ⟨0, c2, m2, hCt _ ?_, hMg _ ?_, Or.inl rfl, z5.more (by omega), nC2, nM2⟩
    · rw [if_pos kt]
      unfold GB_Step_giveOn_46
      rw [if_pos rfl, gd1 hvp, z1, q_some2, if_neg (by simp)]
    · rw [if_pos kt]
      unfold GB_Mo_gives_40
      rw [if_pos (by omega), z2, q_some2, if_neg (by simp)]
  · have ep2 : c2 101 (31 * w + pl) 0 = (q : Int) := by rw [z6 101 (by decide)]; exact ep
    have e12 : m2 100 0 = (w : Int) := z5.2.1.2.1
    have hp2 := z5.1.po hw p1 p30 hq ep2
    have e3' : m2 3 = m 3 := by rw [z7 3 (by decide), y3 3 (by decide)]
    have e5' : m2 5 = m 5 := by rw [z7 5 (by decide), y3 5 (by decide)]
    obtain ⟨c3, m3, m4, u1, u2, u3, u4, u5, u6⟩ := z5.1.carry (by omega) hw e12 p1 p30 ep2 hp2 (g' := t) (by rw [e3']; exact t3) (by rw [e5']; exact kt) (by rw [z6 2012 (by decide)]; exact z4 rfl)
    have h4 : ZZ (b + 2 + 1) c3 m4 w F L := z5.ofE (Nat.le_succ _) u4 u5 u6 rfl rfl
    have h5 := h4.mv p1 p30 hq (by rw [u5 101 (by decide)]; exact ep2)
    refine ⟨1, _, _, hCt _ ?_, hMg _ ?_, Or.inr rfl, h5, ((nC2.tr (u5.up (by decide))).wc (by decide) _ _ _), ((nM2.tr (u6.up (by decide))).wm (by decide) _ _)⟩
    · rw [if_pos kt]
      unfold GB_Step_giveOn_46
      rw [if_pos rfl, gd1 hvp, z1, q_some2, if_pos (by decide), z5.2.1.2.2.2.2.2, Int.toNat_natCast, gd1 (by omega), u1, q_some, bi1]
    · rw [if_pos kt]
      unfold GB_Mo_gives_40
      rw [if_pos (by omega), z2, q_some2, if_pos (by decide), u2, q_some, u3, q_some, gd1 (by omega), Int.toNat_natCast, bi1]
