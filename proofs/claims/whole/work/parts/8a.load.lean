/-! ===== the reference goes back to a kept state ===== -/
theorem n_undo {w : Nat} (hw : w < 3) {n : Nat} (hn : n ≤ 2000) (r : Int) : ∀ (d q fu : Nat) (m : h_M), q + d = n + 1 → 1 ≤ q → d < fu → m 100 0 = (w : Int) → m 123 0 = (n : Int) → ∃ m', GO_Mo_goOver_320 fu r (q : Int) m = GB_Mo_goOver_369 m' ∧ eM [25] m m' ∧ (∀ x : Nat, m' 25 x = if q ≤ x ∧ x ≤ n ∧ m 24 x = (w : Int) ∧ (r < (x : Int) ∨ m 25 x = 1) then 0 else m 25 x) := by
  intro d
  induction d with
  | zero =>
    intro q fu m hd h1 hf e1 e2
    obtain ⟨fu, rfl⟩ : ∃ g, fu = g + 1 := ⟨fu - 1, by omega⟩
    refine ⟨m, ?_, eM.rf _ _, fun x => by rw [if_neg (by omega)]⟩
    show GL_Mo_goOver_320 _ _ _ m = _
    unfold GL_Mo_goOver_320
    rw [if_pos (by omega)]
  | succ d ih =>
    intro q fu m hd h1 hf e1 e2
    obtain ⟨fu, rfl⟩ : ∃ g, fu = g + 1 := ⟨fu - 1, by omega⟩
    have nM : ∀ m2 : h_M, GB_Mo_goOver_363 (GO_Mo_goOver_320 fu) r (q : Int) m2 = GO_Mo_goOver_320 fu r ((q + 1 : Nat) : Int) m2 := fun m2 => by
      unfold GB_Mo_goOver_363
      rw [p_w1 (by omega) (by omega), bi1]
      rfl
    have hM : ∀ X, (if m 24 q = (w : Int) ∧ (r < (q : Int) ∨ m 25 q = 1) then GO_Mo_goOver_320 fu r ((q + 1 : Nat) : Int) (wm m 25 q 0) else GO_Mo_goOver_320 fu r ((q + 1 : Nat) : Int) m) = X → GO_Mo_goOver_320 (fu + 1) r (q : Int) m = X := fun X hX => by
      show GL_Mo_goOver_320 _ _ _ m = _
      unfold GL_Mo_goOver_320 GB_Mo_goOver_356
      rw [if_neg (by omega), gd1 (by omega), gd1 (by omega), Int.toNat_natCast, e1]
      simp only [bi1, nM]
      rw [← hX]
      by_cases h24 : m 24 q = (w : Int)
      · rw [if_neg (by omega)]
        by_cases hr : r < (q : Int)
        · rw [if_pos hr, if_pos ⟨h24, Or.inl hr⟩]
        · rw [if_neg hr]
          by_cases h25 : m 25 q = 1
          · rw [if_neg (by omega), if_pos ⟨h24, Or.inr h25⟩]
          · rw [if_pos h25, if_neg (by omega)]
      · rw [if_pos h24, if_neg (by omega)]
    by_cases hc : m 24 q = (w : Int) ∧ (r < (q : Int) ∨ m 25 q = 1)
    · obtain ⟨m', y1, y2, y3⟩ := ih (q + 1) fu (wm m 25 q 0) (by omega) (by omega) (by omega) (by rw [wm_at, if_neg (by omega)]; exact e1) (by rw [wm_at, if_neg (by omega)]; exact e2)
      refine ⟨m', hM _ (by rw [if_pos hc]; exact y1), eM.tr (by repeat first | exact eM.rf _ _ | refine eM.wm ?_ (by decide) _ _) y2, fun x => ?_⟩
      rw [y3 x]
      have e24 : wm m 25 q 0 24 x = m 24 x := by rw [wm_at, if_neg (by omega)]
      rw [e24, wm_at]
      by_cases e : x = q
      · subst e
        rw [if_neg (by omega), if_pos ⟨rfl, rfl⟩, if_pos ⟨by omega, by omega, hc⟩]
      · rw [if_neg (show ¬ (25 = 25 ∧ x = q) from fun z => e z.2)]
        by_cases hc' : q + 1 ≤ x ∧ x ≤ n ∧ m 24 x = (w : Int) ∧ (r < (x : Int) ∨ m 25 x = 1)
        · rw [if_pos hc', if_pos ⟨by omega, hc'.2⟩]
        · rw [if_neg hc', if_neg (fun z => hc' ⟨by omega, z.2⟩)]
    · obtain ⟨m', y1, y2, y3⟩ := ih (q + 1) fu m (by omega) (by omega) (by omega) e1 e2
      refine ⟨m', hM _ (by rw [if_neg hc]; exact y1), y2, fun x => ?_⟩
      rw [y3 x]
      by_cases hc' : q + 1 ≤ x ∧ x ≤ n ∧ m 24 x = (w : Int) ∧ (r < (x : Int) ∨ m 25 x = 1)
      · rw [if_pos hc', if_pos ⟨by omega, hc'.2⟩]
      · rw [if_neg hc', if_neg (fun z => by
          by_cases e : x = q
          · subst e; exact hc z.2.2
          · exact hc' ⟨by omega, z.2⟩)]
/-- the slots that a kept row has -/
def r83 (m : h_M) (w B G : Nat) (r : Nat → Int) : Prop := ∀ s, s < 8 * G → r (320 * w + s) = m 83 (B + 17 + 19 * (s / 8) + s % 8)
theorem n_load {w : Nat} (hw : w < 3) {m : h_M} (e1 : m 100 0 = (w : Int)) {x : Nat} (hx : x < 30) {G : Nat} (e3 : m 3 w = (G : Int)) (hG : G ≤ 40) (hk : m 185 0 = 0) {B : Nat} (hB : B = 2600 * (30 * w + x)) {n : Nat} (hn : m 123 0 = (n : Int)) (hn2 : n ≤ 2000) (h14 : ∀ g : Nat, g < G → m 83 (B + 9 + 19 * g) = 0 ∨ m 83 (B + 9 + 19 * g) = 1)
    (hsl : ∀ s, s < 8 * G → m 83 (B + 17 + 19 * (s / 8) + s % 8) = 0 ∨ ∃ q : Nat, 1 ≤ q ∧ q ≤ 2000 ∧ m 83 (B + 17 + 19 * (s / 8) + s % 8) = (q : Int) ∧ (m 83 (B + 338 + 19 * G + 34 * kpos m B s + 5) = 0 ∨ m 83 (B + 338 + 19 * G + 34 * kpos m B s + 5) = 1))
    (hinj : ∀ s s' : Nat, s < 8 * G → s' < 8 * G → 0 < m 83 (B + 17 + 19 * (s / 8) + s % 8) → m 83 (B + 17 + 19 * (s' / 8) + s' % 8) = m 83 (B + 17 + 19 * (s / 8) + s % 8) → s' = s) (hkp : kpos m B (8 * G) ≤ 30) :
    ∃ m' r, G_Mo_goOver (x : Int) m = some m' ∧ r83 m w B G r ∧ m' 83 = m 83 ∧ (∀ g j, g ≠ 25 → g ≠ 184 → (∀ p, ¬ SH w G B g j p) → (∀ p, ¬ SQs r w 0 (8 * G) (B + 338 + 19 * G) g j p) → m' g j = m g j) ∧ (∀ g j p, (SH w G B g j p ∨ SQs r w 0 (8 * G) (B + 338 + 19 * G) g j p) → m' g j = m 83 p) ∧ (∀ q : Nat, (∃ s, s < 8 * G ∧ 1 ≤ q ∧ m 83 (B + 17 + 19 * (s / 8) + s % 8) = (q : Int)) → m' 25 q = 1) ∧ (∀ q : Nat, (¬ ∃ s, s < 8 * G ∧ 1 ≤ q ∧ m 83 (B + 17 + 19 * (s / 8) + s % 8) = (q : Int)) → m' 25 q = if 1 ≤ q ∧ q ≤ n ∧ m 24 q = (w : Int) ∧ (m 83 (B + 5) < (q : Int) ∨ m 25 q = 1) then 0 else m 25 q) := by
  obtain ⟨r, m2, a1, a2, a3, _⟩ := n_head hw (m := m) e1 hx e3 hG (Or.inl hk) hB (fun h => by omega) (fun _ => h14)
  have k5 : wm m 184 0 (B : Int) 185 0 = 0 := by rw [wm_at, if_neg (by omega)]; exact hk
  have s1 : ∀ g j, g ≠ 184 → wm m 184 0 (B : Int) g j = m g j := fun g j h => by rw [wm_at, if_neg (fun z => h z.1)]
  have nSH : ∀ g j p, (g = 3 ∨ g = 24 ∨ g = 25 ∨ g = 100 ∨ g = 123 ∨ g = 185) → ¬ SH w G B g j p := fun g j p hg z => by
    rcases z with z | ⟨g', _, _, z⟩ | z | z | z
    · omega
    · unfold SG at z; omega
    · have := z.1; omega
    · have := z.1; omega
    · have := z.1; omega
  have f2 : ∀ g j, (g = 3 ∨ g = 24 ∨ g = 25 ∨ g = 100 ∨ g = 123 ∨ g = 185) → m2 g j = m g j := fun g j hg => by
    rw [a2.at g j (by omega) (fun p => nSH g j p hg) (fun z => z), s1 g j (by omega)]
  have m83 : ∀ j, m2 83 j = m 83 j := fun j => by rw [a2.2.2.1 j (Or.inr (Or.inr k5)), s1 83 j (by decide)]
  obtain ⟨m3, b1, b2, b3⟩ := n_undo hw hn2 r n 1 3000 m2 (by omega) (by omega) (by omega) (by rw [f2 _ _ (by omega)]; exact e1) (by rw [f2 _ _ (by omega)]; exact hn)
  have h83 : ∀ j, m3 83 j = m 83 j := fun j => by rw [b2 83 (by decide)]; exact m83 j
  have hr83 : r83 m w B G (m3 22) := fun s hs => by
    rw [b2 22 (by decide)]
    have := (a2.2.2.2 22 (320 * w + s) (B + 17 + 19 * (s / 8) + s % 8) (Or.inr (Or.inl ⟨s / 8, by omega, by omega, by unfold SG; omega⟩))).2
    rw [this, m83]
  have hkq : ∀ t, t ≤ 8 * G → kq (m3 22) w t = kpos m B t := fun t ht => by
    unfold kq kpos
    exact cnt_ext t (fun s hs => by rw [hr83 s (by omega)])
  have k3 : m3 185 0 = 0 := by rw [b2 185 (by decide), f2 _ _ (by omega)]; exact hk
  obtain ⟨m4, c1, c2, c3⟩ := n_parcels hw hG (P := B + 338 + 19 * G) (r := m3 22) (by rw [hkq _ (Nat.le_refl _)]; omega) (fun s s' hs hs' h0 he => by
    rw [hr83 s hs] at h0 he
    rw [hr83 s' hs'] at he
    exact hinj s s' hs hs' h0 he) (8 * G) 0 3000 m3 (by omega) (by omega) rfl (by rw [b2 100 (by decide), f2 _ _ (by omega)]; exact e1) (by rw [b2 3 (by decide), f2 _ _ (by omega)]; exact e3) (by rw [b2 184 (by decide)]; exact a2.1.1) (Or.inl k3) (fun s _ hs => by
    rw [hr83 s hs, hkq s (by omega), h83]
    rcases hsl s hs with z | ⟨q, z1, z2, z3, z4⟩
    · exact Or.inl z
    · exact Or.inr ⟨q, z1, z2, z3, fun h => by omega, fun _ => z4⟩)
  have nSQ : ∀ g j p, (g < 25 ∨ 35 < g) → ¬ SQs (m3 22) w 0 (8 * G) (B + 338 + 19 * G) g j p := fun g j p hg z => by
    obtain ⟨s, q, _, _, _, _, z⟩ := z
    unfold SQ at z; omega
  have h83' : ∀ j, m4 83 j = m 83 j := fun j => by rw [c2.2.2.1 j (Or.inr (Or.inr k3)), h83]
  refine ⟨m4, m3 22, ?_, hr83, funext h83', fun g j h1 h2 h3 h4 => ?_, fun g j p hp => ?_, fun q hq => ?_, fun q hq => ?_⟩
  · rw [a1, if_neg (by rw [f2 _ _ (by omega), hk]; decide), show GO_Mo_goOver_320 3000 r 1 m2 = _ from b1]
    unfold GB_Mo_goOver_369 G_Mo_goOverParcels
    rw [b2 100 (by decide), f2 _ _ (by omega), e1, p_w1 (x := 320 * (w : Int)) (by omega) (by omega), bi1, show 320 * (w : Int) = ((320 * w + 0 : Nat) : Int) by omega, c1, q_some]
  · by_cases e83 : g = 83
    · subst e83; exact h83' j
    · rw [c2.at g j ⟨e83, h2⟩ h4 (fun z => h1 z.1), b2 g (by simp [h1]), a2.at g j ⟨e83, h2⟩ h3 (fun z => z), s1 g j h2]
  · rcases hp with hp | hp
    · obtain ⟨⟨_, z2, z3, z4, z5⟩, z6⟩ := a2.2.2.2 g j p hp
      have hg25 : g ≠ 25 := fun e => nSH g j p (by omega) hp
      rw [c2.at g j ⟨z3, z4⟩ (fun p' => ?_) (fun z => hg25 z.1), b2 g (by simp [hg25]), z6, m83]
      refine nSQ g j p' ?_
      rcases hp with z | ⟨g', _, _, z⟩ | z | z | z
      · omega
      · unfold SG at z; omega
      · have := z.1; omega
      · have := z.1; omega
      · have := z.1; omega
    · obtain ⟨_, z6⟩ := c2.2.2.2 g j p hp
      rw [z6, h83']
  · obtain ⟨s, z1, z2, z3⟩ := hq
    exact c3 s q (by omega) z1 z2 (by rw [hr83 s z1]; exact z3)
  · rw [c2.at 25 q (by decide) (fun p z => by
      obtain ⟨s, q, _, _, _, _, z⟩ := z
      unfold SQ at z; omega) (fun z => hq (by
      obtain ⟨_, s, z1, z2, z3, z4⟩ := z
      exact ⟨s, z2, z3, by rw [← hr83 s z2]; exact z4⟩)), b3 q, f2 25 q (by omega), f2 24 q (by omega), a3, m83]
