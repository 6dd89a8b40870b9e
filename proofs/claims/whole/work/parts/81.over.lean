/-! ===== goOver: its head, its parcels ===== -/
def SGs (w g0 G B : Nat) : Nat → Nat → Nat → Prop := fun f k n => ∃ g, g0 ≤ g ∧ g < G ∧ SG (40 * w + g) (B + 6 + 19 * g) f k n
theorem n_gears {w : Nat} (hw : w < 3) {G : Nat} (hG : G ≤ 40) (v2 : Int) {B : Nat} (h8 : B + 800 < 234000) : ∀ (d g fu : Nat) (m : h_M), g + d = G → d < fu → m 100 0 = (w : Int) → m 3 w = (G : Int) → m 184 0 = ((B + 6 + 19 * g : Nat) : Int) → (m 185 0 = 0 ∨ m 185 0 = 1) → (m 185 0 = 1 → ∀ g' : Nat, g ≤ g' → g' < G → m 14 (40 * w + g') = 0 ∨ m 14 (40 * w + g') = 1) → (m 185 0 = 0 → ∀ g' : Nat, g ≤ g' → g' < G → m 83 (B + 9 + 19 * g') = 0 ∨ m 83 (B + 9 + 19 * g') = 1) → ∃ m', GO_Mo_goOver_144 fu v2 ((40 * w + g : Nat) : Int) m = GO_Mo_goOver_184 3000 v2 ((120 * w : Nat) : Int) m' ∧ Go (SGs w g G B) nT (B + 6 + 19 * g) (B + 6 + 19 * G) m m' := by
  intro d
  induction d with
  | zero =>
    intro g fu m hd hf e1 e3 hp hk _ _
    obtain ⟨fu, rfl⟩ : ∃ g, fu = g + 1 := ⟨fu - 1, by omega⟩
    have eg : g = G := by omega
    subst eg
    refine ⟨m, ?_, Go.rf _ hp (fun f k n z => by obtain ⟨g', z1, z2, _⟩ := z; omega)⟩
    show GL_Mo_goOver_144 _ _ _ m = _
    unfold GL_Mo_goOver_144
    rw [e1, gd1 (by omega), Int.toNat_natCast, e3, p_w1 (x := 40 * (w : Int)) (by omega) (by omega), p_w1 (x := 40 * (w : Int) + (g : Int)) (by omega) (by omega), if_pos (by omega), p_w1 (x := 120 * (w : Int)) (by omega) (by omega), bi1, show 120 * (w : Int) = ((120 * w : Nat) : Int) by omega]
  | succ d ih =>
    intro g fu m hd hf e1 e3 hp hk h14 h14'
    obtain ⟨fu, rfl⟩ : ∃ g, fu = g + 1 := ⟨fu - 1, by omega⟩
    obtain ⟨m1, x1, x2⟩ := n_gear (i := 40 * w + g) (by omega) hp (by omega) hk (fun h => h14 h g (by omega) (by omega)) (fun h => by
      have := h14' h g (by omega) (by omega)
      rwa [show B + 6 + 19 * g + 3 = B + 9 + 19 * g by omega])
    have n14 : m1 185 0 = 1 → ∀ k, 40 * w + g < k → m1 14 k = m 14 k := fun _ k hk => x2.at 14 k (by decide) (fun n z => by unfold SG at z; omega) (fun z => z)
    obtain ⟨m', y1, y2⟩ := ih (g + 1) fu m1 (by omega) (by omega) (by rw [x2.at 100 0 (by decide) (fun n z => by unfold SG at z; omega) (fun z => z)]; exact e1) (by rw [x2.at 3 w (by decide) (fun n z => by unfold SG at z; omega) (fun z => z)]; exact e3) (by rw [x2.1.1]; congr 1) (by rw [x2.1.2]; exact hk) (fun h g' z1 z2 => by
      rw [n14 h _ (by omega)]; exact h14 (by rw [← x2.1.2]; exact h) g' (by omega) z2) (fun h g' z1 z2 => by
      have h0 : m 185 0 = 0 := by rw [← x2.1.2]; exact h
      rw [x2.2.2.1 _ (Or.inr (Or.inr h0))]; exact h14' h0 g' (by omega) z2)
    refine ⟨m', ?_, ?_⟩
    · rw [← y1]
      show GL_Mo_goOver_144 _ _ _ m = _
      unfold GL_Mo_goOver_144
      rw [e1, gd1 (by omega), Int.toNat_natCast, e3, p_w1 (x := 40 * (w : Int)) (by omega) (by omega), p_w1 (x := 40 * (w : Int) + (G : Int)) (by omega) (by omega), if_neg (by omega), x1, q_some, p_w1 (by omega) (by omega)]
      rfl
    · have hp1 : B + 6 + 19 * g + 19 = B + 6 + 19 * (g + 1) := by omega
      rw [hp1] at x2
      refine x2.tr y2 (by omega) (by omega) (fun f k n z => ⟨fun n' z' => ?_, fun z' => z'⟩) (fun f k n z => ?_) (fun f k n z => ?_) (fun g j z => z.elim id id)
      · obtain ⟨g', z1, z2, z3⟩ := z'
        unfold SG at z z3
        omega
      · obtain ⟨g', z1, z2, z3⟩ := z
        by_cases e : g' = g
        · subst e; exact Or.inl z3
        · exact Or.inr ⟨g', by omega, z2, z3⟩
      · rcases z with z | ⟨g', z1, z2, z3⟩
        · exact ⟨g, by omega, by omega, z⟩
        · exact ⟨g', by omega, z2, z3⟩
/-- a cell whose place is the works' number -/
def goh {β : Type} (f : Nat) (K : h_M → Option β) (m : h_M) : Option β := p_gd ((0 : Int) ≤ (m 100 0) ∧ (m 100 0) < (3 : Int)) <| q_bd (G_Mo_both (m f ((m 100 0) : Int).toNat) m) fun r m1 => p_bi (wm m1 f ((m 100 0) : Int).toNat r) K
theorem n_goh {β : Type} {w : Nat} (hw : w < 3) (K : h_M → Option β) {m : h_M} {p : Nat} (e1 : m 100 0 = (w : Int)) (hp : m 184 0 = (p : Int)) (h8 : p < 234000) (hk : m 185 0 = 0 ∨ m 185 0 = 1) (f : Nat) (hf : f ≠ 83 ∧ f ≠ 184 ∧ f ≠ 185) : ∃ m', goh f K m = K m' ∧ Go (S1 f w p) nT p (p + 1) m m' := by
  obtain ⟨m', x1, x2⟩ := n_one K hp h8 hk f w hf
  refine ⟨m', ?_, x2⟩
  unfold goh
  rw [e1, gd1 (by omega), Int.toNat_natCast]
  exact x1
def gk0 (m : h_M) : Option h_M := q_bd (G_Mo_both (m 123 0) m) fun r45 m46 => p_bi ((p_w (40 * (m46 100 0)))) fun x49 => GO_Mo_goOver_144 3000 r45 x49 m46
def gk1 (m : h_M) : Option h_M := goh 42 gk0 m
def gk2 (m : h_M) : Option h_M := goh 40 gk1 m
def gk3 (m : h_M) : Option h_M := goh 39 gk2 m
def gk4 (m : h_M) : Option h_M := goh 38 gk3 m
theorem goOver_eq (v1 : Int) (m : h_M) : G_Mo_goOver v1 m = goh 4 gk4 (wm m 184 0 (p_w (2600 * (p_w ((p_w (30 * (m 100 0))) + v1))))) := rfl
def SH (w G B : Nat) : Nat → Nat → Nat → Prop := fun g j n => (j = w ∧ ((g = 4 ∧ n = B) ∨ (38 ≤ g ∧ g ≤ 40 ∧ n + 37 = B + g) ∨ (g = 42 ∧ n = B + 4))) ∨ SGs w 0 G B g j n ∨ SP 41 (120 * w) 120 (B + 6 + 19 * G) 0 g j n ∨ SP 43 (200 * w) 200 (B + 126 + 19 * G) 0 g j n ∨ SP 51 (12 * w) 12 (B + 326 + 19 * G) 0 g j n
theorem n_head {w : Nat} (hw : w < 3) {m : h_M} (e1 : m 100 0 = (w : Int)) {x : Nat} (hx : x < 30) {G : Nat} (e3 : m 3 w = (G : Int)) (hG : G ≤ 40) (hk : m 185 0 = 0 ∨ m 185 0 = 1) {B : Nat} (hB : B = 2600 * (30 * w + x)) (h14 : m 185 0 = 1 → ∀ g : Nat, g < G → m 14 (40 * w + g) = 0 ∨ m 14 (40 * w + g) = 1) (h14' : m 185 0 = 0 → ∀ g : Nat, g < G → m 83 (B + 9 + 19 * g) = 0 ∨ m 83 (B + 9 + 19 * g) = 1) : ∃ r m', G_Mo_goOver (x : Int) m = (if (m' 185 0) ≠ 0 then GB_Mo_goOver_369 m' else GO_Mo_goOver_320 3000 r 1 m') ∧ Go (SH w G B) nT B (B + 338 + 19 * G) (wm m 184 0 (B : Int)) m' ∧ r = m' 83 (B + 5) ∧ (m 185 0 = 1 → r = m 123 0) := by
  have ew : p_w (2600 * (p_w ((p_w (30 * (m 100 0))) + (x : Int)))) = (B : Int) := by
    rw [e1, p_w1 (x := 30 * (w : Int)) (by omega) (by omega), p_w1 (x := 30 * (w : Int) + (x : Int)) (by omega) (by omega), p_w1 (by omega) (by omega)]
    omega
  rw [goOver_eq, ew]
  have s1 : ∀ g j, (g ≠ 184 ∨ j ≠ 0) → wm m 184 0 (B : Int) g j = m g j := fun g j h => by rw [wm_at, if_neg (by omega)]
  have s2 : wm m 184 0 (B : Int) 184 0 = (B : Int) := by simp [wm_at]
  rw [← s1 100 0 (by omega)] at e1
  rw [← s1 3 w (by omega)] at e3
  rw [← s1 185 0 (by omega)] at hk h14 h14' ⊢
  rw [← s1 123 0 (by omega)]
  replace h14 : wm m 184 0 (B : Int) 185 0 = 1 → ∀ g : Nat, g < G → wm m 184 0 (B : Int) 14 (40 * w + g) = 0 ∨ wm m 184 0 (B : Int) 14 (40 * w + g) = 1 := fun h g hg => by rw [s1 14 _ (by omega)]; exact h14 h g hg
  replace h14' : wm m 184 0 (B : Int) 185 0 = 0 → ∀ g : Nat, g < G → wm m 184 0 (B : Int) 83 (B + 9 + 19 * g) = 0 ∨ wm m 184 0 (B : Int) 83 (B + 9 + 19 * g) = 1 := fun h g hg => by rw [s1 83 _ (by omega)]; exact h14' h g hg
  clear s1 ew
  generalize wm m 184 0 (B : Int) = n at *
  obtain ⟨a, a1, a2⟩ := n_goh hw gk4 e1 s2 (by omega) hk 4 (by decide)
  obtain ⟨b, b1, b2⟩ := n_goh hw gk3 (m := a) (by rw [a2.at 100 0 (by decide) (fun n z => absurd z.1 (by decide)) (fun z => z)]; exact e1) a2.1.1 (by omega) (by rw [a2.1.2]; exact hk) 38 (by decide)
  have ab := a2.tr (S := fun g j n => j = w ∧ ((g = 4 ∧ n = B) ∨ (g = 38 ∧ n = B + 1))) (T := nT) b2 (by omega) (by omega) (fun g j n z => ⟨fun n' z' => by unfold S1 at z z'; omega, fun z' => z'⟩) (fun g j n z => by unfold S1; omega) (fun g j n z => by unfold S1 at z; omega) (fun g j z => z.elim id id)
  obtain ⟨c, c1, c2⟩ := n_goh hw gk2 (m := b) (by rw [ab.at 100 0 (by decide) (fun n z => by omega) (fun z => z)]; exact e1) ab.1.1 (by omega) (by rw [ab.1.2]; exact hk) 39 (by decide)
  have ac := ab.tr (S := fun g j n => j = w ∧ ((g = 4 ∧ n = B) ∨ (38 ≤ g ∧ g ≤ 39 ∧ n + 37 = B + g))) (T := nT) c2 (by omega) (by omega) (fun g j n z => ⟨fun n' z' => by unfold S1 at z'; omega, fun z' => z'⟩) (fun g j n z => by unfold S1; omega) (fun g j n z => by unfold S1 at z; omega) (fun g j z => z.elim id id)
  obtain ⟨d, d1, d2⟩ := n_goh hw gk1 (m := c) (by rw [ac.at 100 0 (by decide) (fun n z => by omega) (fun z => z)]; exact e1) ac.1.1 (by omega) (by rw [ac.1.2]; exact hk) 40 (by decide)
  have ad := ac.tr (S := fun g j n => j = w ∧ ((g = 4 ∧ n = B) ∨ (38 ≤ g ∧ g ≤ 40 ∧ n + 37 = B + g))) (T := nT) d2 (by omega) (by omega) (fun g j n z => ⟨fun n' z' => by unfold S1 at z'; omega, fun z' => z'⟩) (fun g j n z => by unfold S1; omega) (fun g j n z => by unfold S1 at z; omega) (fun g j z => z.elim id id)
  obtain ⟨e, f1, f2⟩ := n_goh hw gk0 (m := d) (by rw [ad.at 100 0 (by decide) (fun n z => by omega) (fun z => z)]; exact e1) ad.1.1 (by omega) (by rw [ad.1.2]; exact hk) 42 (by decide)
  have ae := ad.tr (S := fun g j n => j = w ∧ ((g = 4 ∧ n = B) ∨ (38 ≤ g ∧ g ≤ 40 ∧ n + 37 = B + g) ∨ (g = 42 ∧ n = B + 4))) (T := nT) f2 (by omega) (by omega) (fun g j n z => ⟨fun n' z' => by unfold S1 at z'; omega, fun z' => z'⟩) (fun g j n z => by unfold S1; omega) (fun g j n z => by unfold S1 at z; omega) (fun g j z => z.elim id id)
  have k5 : e 185 0 = n 185 0 := ae.1.2
  obtain ⟨r, o, x1, x2, x3, x4, x5, x6, x7⟩ := n_both (p := B + 5) ae.1.1 (by omega) (by rw [k5]; exact hk) (e 123 0)
  have o5 : Go (fun _ _ _ => False) nT (B + 5) (B + 6) e o := ⟨⟨x2, x3 185 0 (by decide) (by decide)⟩, fun g j g1 g2 _ => x3 g j g1 g2, fun j hj => x4 j (by omega), fun f k n z => z.elim⟩
  have ao := ae.tr (S := fun g j n => j = w ∧ ((g = 4 ∧ n = B) ∨ (38 ≤ g ∧ g ≤ 40 ∧ n + 37 = B + g) ∨ (g = 42 ∧ n = B + 4))) (T := nT) o5 (by omega) (by omega) (fun g j n z => ⟨fun n' z' => z', fun z' => z'⟩) (fun g j n z => Or.inl z) (fun g j n z => z.elim id False.elim) (fun g j z => z.elim id id)
  have o1 : o 100 0 = (w : Int) := by rw [ao.at 100 0 (by decide) (fun n z => by omega) (fun z => z)]; exact e1
  have o3 : o 3 w = (G : Int) := by rw [ao.at 3 w (by decide) (fun n z => by omega) (fun z => z)]; exact e3
  have ok : o 185 0 = n 185 0 := ao.1.2
  obtain ⟨h, h1, h2⟩ := n_gears hw hG r (B := B) (by omega) G 0 3000 o (by omega) (by omega) o1 o3 ao.1.1 (by rw [ok]; exact hk) (fun hh g _ hg => by
    rw [ao.at 14 _ (by decide) (fun n z => by omega) (fun z => z)]; exact h14 (by rw [← ok]; exact hh) g hg) (fun hh g _ hg => by
    have h0 : n 185 0 = 0 := by rw [← ok]; exact hh
    rw [ao.2.2.1 _ (Or.inr (Or.inr h0))]; exact h14' h0 g hg)
  have ah := ao.tr (S := fun g j n => (j = w ∧ ((g = 4 ∧ n = B) ∨ (38 ≤ g ∧ g ≤ 40 ∧ n + 37 = B + g) ∨ (g = 42 ∧ n = B + 4))) ∨ SGs w 0 G B g j n) (T := nT) h2 (by omega) (by omega) (fun g j n z => ⟨fun n' z' => by obtain ⟨g', z1, z2, z3⟩ := z'; unfold SG at z3; omega, fun z' => z'⟩) (fun g j n z => z) (fun g j n z => z) (fun g j z => z.elim id id)
  have nn : ∀ g j n, (g < 10 ∨ 22 < g) → ¬ SGs w 0 G B g j n := fun g j n hg z => by obtain ⟨g', z1, z2, z3⟩ := z; unfold SG at z3; omega
  obtain ⟨i, i1, i2⟩ := n_r41 hw r (p := B + 6 + 19 * G) (by omega) 120 0 3000 h (by omega) (by omega) (by rw [ah.at 100 0 (by decide) (fun n z => z.elim (fun z => by omega) (nn _ _ _ (by omega))) (fun z => z)]; exact e1) ah.1.1 (by rw [ah.1.2]; exact hk)
  have ai := ah.tr (S := fun g j n => ((j = w ∧ ((g = 4 ∧ n = B) ∨ (38 ≤ g ∧ g ≤ 40 ∧ n + 37 = B + g) ∨ (g = 42 ∧ n = B + 4))) ∨ SGs w 0 G B g j n) ∨ SP 41 (120 * w) 120 (B + 6 + 19 * G) 0 g j n) (T := nT) i2 (by omega) (by omega) (fun g j n z => ⟨fun n' z' => by
    have g41 : g = 41 := z'.1
    exact z.elim (fun z => by omega) (nn _ _ _ (by omega)), fun z' => z'⟩) (fun g j n z => z) (fun g j n z => z) (fun g j z => z.elim id id)
  obtain ⟨k, k1, k2⟩ := n_r43 hw r (p := B + 126 + 19 * G) (by omega) 200 0 3000 i (by omega) (by omega) (by rw [ai.at 100 0 (by decide) (fun n z => z.elim (fun z => z.elim (fun z => by omega) (nn _ _ _ (by omega))) (fun z => absurd z.1 (by decide))) (fun z => z)]; exact e1) (by rw [ai.1.1]; congr 1; omega) (by rw [ai.1.2]; exact hk)
  have ep : B + 6 + 19 * G + 120 = B + 126 + 19 * G + 0 := by omega
  rw [ep] at ai
  have ak := ai.tr (S := fun g j n => (((j = w ∧ ((g = 4 ∧ n = B) ∨ (38 ≤ g ∧ g ≤ 40 ∧ n + 37 = B + g) ∨ (g = 42 ∧ n = B + 4))) ∨ SGs w 0 G B g j n) ∨ SP 41 (120 * w) 120 (B + 6 + 19 * G) 0 g j n) ∨ SP 43 (200 * w) 200 (B + 126 + 19 * G) 0 g j n) (T := nT) k2 (by omega) (by omega) (fun g j n z => ⟨fun n' z' => by
    have g43 : g = 43 := z'.1
    exact z.elim (fun z => z.elim (fun z => by omega) (nn _ _ _ (by omega))) (fun z => by have := z.1; omega), fun z' => z'⟩) (fun g j n z => z) (fun g j n z => z) (fun g j z => z.elim id id)
  obtain ⟨l, l1, l2⟩ := n_r51 hw r (p := B + 326 + 19 * G) (by omega) 12 0 3000 k (by omega) (by omega) (by rw [ak.at 100 0 (by decide) (fun n z => z.elim (fun z => z.elim (fun z => z.elim (fun z => by omega) (nn _ _ _ (by omega))) (fun z => absurd z.1 (by decide))) (fun z => absurd z.1 (by decide))) (fun z => z)]; exact e1) (by rw [ak.1.1]; congr 1; omega) (by rw [ak.1.2]; exact hk)
  have ep : B + 126 + 19 * G + 200 = B + 326 + 19 * G + 0 := by omega
  rw [ep] at ak
  have ep : B + 326 + 19 * G + 12 = B + 338 + 19 * G := by omega
  rw [ep] at l2
  have al := ak.tr (S := SH w G B) (T := nT) l2 (by omega) (by omega) (fun g j n z => ⟨fun n' z' => by
    have g51 : g = 51 := z'.1
    exact z.elim (fun z => z.elim (fun z => z.elim (fun z => by omega) (nn _ _ _ (by omega))) (fun z => by have := z.1; omega)) (fun z => by have := z.1; omega), fun z' => z'⟩) (fun g j n z => by
    rcases z with z | z | z | z | z
    · exact Or.inl (Or.inl (Or.inl (Or.inl z)))
    · exact Or.inl (Or.inl (Or.inl (Or.inr z)))
    · exact Or.inl (Or.inl (Or.inr z))
    · exact Or.inl (Or.inr z)
    · exact Or.inr z) (fun g j n z => by
    rcases z with (((z | z) | z) | z) | z
    · exact Or.inl z
    · exact Or.inr (Or.inl z)
    · exact Or.inr (Or.inr (Or.inl z))
    · exact Or.inr (Or.inr (Or.inr (Or.inl z)))
    · exact Or.inr (Or.inr (Or.inr (Or.inr z)))) (fun g j z => z.elim id id)
  refine ⟨r, l, ?_, al, ?_, fun hh => ?_⟩
  · rw [a1]
    show goh 38 gk3 a = _
    rw [b1]
    show goh 39 gk2 b = _
    rw [c1]
    show goh 40 gk1 c = _
    rw [d1]
    show goh 42 gk0 d = _
    rw [f1]
    unfold gk0
    rw [x1]
    show p_bi ((p_w (40 * (o 100 0)))) (fun x49 => GO_Mo_goOver_144 3000 r x49 o) = _
    rw [o1, p_w1 (x := 40 * (w : Int)) (by omega) (by omega), bi1, show 40 * (w : Int) = ((40 * w + 0 : Nat) : Int) by omega, h1]
    exact i1.trans (k1.trans l1)
  · rw [l2.lo (by omega), k2.lo (by omega), i2.lo (by omega), h2.lo (by omega)]
    exact x5.symm
  · rw [x6 (by rw [k5]; exact hh), ae.at 123 0 (by decide) (fun n z => by omega) (fun z => z)]
