/-! ===== keep, in both ===== -/
theorem kpos_kq {m m' : h_M} {w B G : Nat} (h : ∀ s, s < 8 * G → m' 83 (B + 17 + 19 * (s / 8) + s % 8) = m 22 (320 * w + s)) {t : Nat} (ht : t ≤ 8 * G) : kpos m' B t = kq (m 22) w t := by
  unfold kpos kq
  exact cnt_ext t (fun s hs => by rw [h s (by omega)])
/-- the slots of works w, by number -/
theorem RR.slots {b : Nat} {c : h_C} {m : h_M} (h : RR b c m) {w : Nat} (hw : w < 3) {G : Nat} (hG : m 3 w = (G : Int)) : (∀ s, s < 8 * G → m 22 (320 * w + s) = 0 ∨ ∃ pl q : Nat, 1 ≤ pl ∧ pl ≤ 30 ∧ 1 ≤ q ∧ q ≤ 2000 ∧ m 22 (320 * w + s) = (q : Int) ∧ c 101 (31 * w + pl) 0 = (q : Int) ∧ PO b c m w pl q ∧ c 105 (31 * w + pl) 0 = ((s / 8 : Nat) : Int) ∧ c 106 (31 * w + pl) 0 = ((s % 8 : Nat) : Int) ∧ m 26 q = ((s / 8 : Nat) : Int) ∧ m 27 q = ((s % 8 : Nat) : Int)) ∧ (∀ s s' : Nat, s < 8 * G → s' < 8 * G → 0 < m 22 (320 * w + s) → m 22 (320 * w + s') = m 22 (320 * w + s) → s' = s) ∧ kq (m 22) w (8 * G) ≤ 30 := by
  obtain ⟨p1, p2, p3, p4, p5⟩ := h.P
  have hG40 := (h.F.1 w).2.2
  have hN := h.N.2.2.1
  have a : ∀ s, s < 8 * G → m 22 (320 * w + s) = 0 ∨ ∃ pl q : Nat, 1 ≤ pl ∧ pl ≤ 30 ∧ 1 ≤ q ∧ q ≤ 2000 ∧ m 22 (320 * w + s) = (q : Int) ∧ c 101 (31 * w + pl) 0 = (q : Int) ∧ PO b c m w pl q ∧ c 105 (31 * w + pl) 0 = ((s / 8 : Nat) : Int) ∧ c 106 (31 * w + pl) 0 = ((s % 8 : Nat) : Int) ∧ m 26 q = ((s / 8 : Nat) : Int) ∧ m 27 q = ((s % 8 : Nat) : Int) := fun s hs => by
    have hsl := p2 w (s / 8) (s % 8) hw (by omega) (by omega)
    unfold SL at hsl
    rw [show 8 * (40 * w + s / 8) + s % 8 = 320 * w + s by omega] at hsl
    rcases hsl with ⟨_, z⟩ | ⟨pl, z1, z2, z3, z4, z5, z6, z7, z8, z9⟩
    · exact Or.inl z
    · rcases p3 w pl hw z1 z2 with y | ⟨q, y1, y2⟩
      · omega
      · obtain ⟨⟨⟨q1, q2, q3, q4⟩, g, k, g40, k8, x1, x2, x3, x4, x5, x6, x7⟩, _⟩ := id y2
        exact Or.inr ⟨pl, q, z1, z2, q1, by omega, by omega, y1, y2, z6, z7, by omega, by omega⟩
  refine ⟨a, fun s s' hs hs' h0 he => ?_, ?_⟩
  · rcases a s hs with z | ⟨pl, q, _, _, _, _, z5, _, _, _, _, z6, z7⟩
    · omega
    · rcases a s' hs' with y | ⟨pl', q', _, _, _, _, y5, _, _, _, _, y6, y7⟩
      · omega
      · have : q' = q := by omega
        subst this
        omega
  · unfold kq
    refine cnt_inj (p := fun s => decide (0 < m 22 (320 * w + s))) (fun k => (8 * c 105 (31 * w + k + 1) 0 + c 106 (31 * w + k + 1) 0).toNat) 30 _ (fun s hs hp => ?_)
    have hp' : 0 < m 22 (320 * w + s) := by simpa using hp
    rcases a s hs with z | ⟨pl, q, y1, y2, _, _, _, _, _, y3, y4, _, _⟩
    · omega
    · refine ⟨pl - 1, by omega, ?_⟩
      rw [show 31 * w + (pl - 1) + 1 = 31 * w + pl by omega, y3, y4]
      omega
/-- the reference keeps a state -/
theorem n_keep {w : Nat} (hw : w < 3) {m : h_M} (e1 : m 100 0 = (w : Int)) {G : Nat} (e3 : m 3 w = (G : Int)) (hG : G ≤ 40) {n f : Nat} (hn : m 81 w = (n : Int)) (hf : m 82 w = (f : Int)) (hnf : n < 30 ∧ f < 30) {B : Nat} (hB : B = 2600 * (30 * w + (f + n) % 30)) (h14 : ∀ i, m 14 i = 0 ∨ m 14 i = 1) (hsl : ∀ s, s < 8 * G → m 22 (320 * w + s) = 0 ∨ ∃ q : Nat, 1 ≤ q ∧ q ≤ 2000 ∧ m 22 (320 * w + s) = (q : Int) ∧ m 25 q = 1 ∧ (m 35 q = 0 ∨ m 35 q = 1)) (hinj : ∀ s s' : Nat, s < 8 * G → s' < 8 * G → 0 < m 22 (320 * w + s) → m 22 (320 * w + s') = m 22 (320 * w + s) → s' = s) (hkq : kq (m 22) w (8 * G) ≤ 30) : ∃ m', GB_Mo_keep_50 m = some m' ∧ eM [83, 184, 185, 81] m m' ∧ m' 81 w = ((n + 1 : Nat) : Int) ∧ (∀ w', w' ≠ w → m' 81 w' = m 81 w') ∧ (∀ j, (j < B ∨ B + 2600 ≤ j) → m' 83 j = m 83 j) ∧ (∀ g j p, (SH w G B g j p ∨ SQs (m 22) w 0 (8 * G) (B + 338 + 19 * G) g j p) → m' 83 p = m g j) ∧ m' 83 (B + 5) = m 123 0 := by
  have er : p_rem (p_w ((f : Int) + (n : Int))) 30 = (((f + n) % 30 : Nat) : Int) := by
    rw [p_w1 (by omega) (by omega), p_rem1 (by omega) (by omega) (by omega)]
    omega
  have hx : (f + n) % 30 < 30 := Nat.mod_lt _ (by omega)
  generalize hm1 : wm m 185 0 1 = m1
  have s1 : ∀ g j, g ≠ 185 → m1 g j = m g j := fun g j h => by rw [← hm1, wm_at, if_neg (fun z => h z.1)]
  have s5 : m1 185 0 = 1 := by rw [← hm1]; simp [wm_at]
  obtain ⟨r, m2, a1, a2, a3, a4⟩ := n_head hw (m := m1) (by rw [s1 _ _ (by decide)]; exact e1) hx (by rw [s1 _ _ (by decide)]; exact e3) hG (Or.inr s5) hB (fun _ g _ => by rw [s1 _ _ (by decide)]; exact h14 _) (fun h => by omega)
  have k5 : wm m1 184 0 (B : Int) 185 0 = 1 := by rw [wm_at, if_neg (by omega)]; exact s5
  have q1 : ∀ g j, g ≠ 83 → g ≠ 184 → g ≠ 185 → m2 g j = m g j := fun g j h1 h2 h3 => by
    rw [a2.2.1 g j h1 h2 (Or.inr k5), wm_at, if_neg (fun z => h2 z.1), s1 g j h3]
  have q22 : m2 22 = m 22 := by funext j; exact q1 22 j (by decide) (by decide) (by decide)
  have q5 : m2 185 0 = 1 := by rw [a2.1.2]; exact k5
  obtain ⟨m3, b1, b2, b3⟩ := n_parcels hw hG (P := B + 338 + 19 * G) (r := m 22) (by omega) hinj (8 * G) 0 3000 m2 (by omega) (by omega) q22 (by rw [q1 _ _ (by decide) (by decide) (by decide)]; exact e1) (by rw [q1 _ _ (by decide) (by decide) (by decide)]; exact e3) a2.1.1 (Or.inr q5) (fun s _ hs => by
    rcases hsl s hs with z | ⟨q, z1, z2, z3, z4, z5⟩
    · exact Or.inl z
    · exact Or.inr ⟨q, z1, z2, z3, fun _ => by
        rw [q1 _ _ (by decide) (by decide) (by decide), q1 _ _ (by decide) (by decide) (by decide)]
        exact ⟨z4, z5⟩, fun h => by omega⟩)
  have t1 : ∀ g j, g ≠ 83 → g ≠ 184 → g ≠ 185 → m3 g j = m g j := fun g j h1 h2 h3 => by
    rw [b2.2.1 g j h1 h2 (Or.inr q5), q1 g j h1 h2 h3]
  have t83 : ∀ j, (j < B ∨ B + 2600 ≤ j) → m3 83 j = m 83 j := fun j hj => by
    rw [b2.2.2.1 j (by omega), a2.2.2.1 j (by omega), wm_at, if_neg (by omega), s1 _ _ (by decide)]
  refine ⟨wm m3 81 w ((n + 1 : Nat) : Int), ?_, ?_, by simp [wm_at], fun w' h => ?_, fun j hj => ?_, fun g j p hp => ?_, ?_⟩
  · unfold GB_Mo_keep_50
    rw [hm1, bi1, s1 100 0 (by decide), e1, gd1 (by omega), Int.toNat_natCast, s1 82 w (by decide), s1 81 w (by decide), hn, hf, er, a1, if_pos (by omega)]
    unfold GB_Mo_goOver_369 G_Mo_goOverParcels
    rw [q1 100 0 (by decide) (by decide) (by decide), e1, p_w1 (x := 320 * (w : Int)) (by omega) (by omega), bi1, show 320 * (w : Int) = ((320 * w + 0 : Nat) : Int) by omega, b1, q_some, q_some, t1 100 0 (by decide) (by decide) (by decide), e1, gd1 (by omega), Int.toNat_natCast, t1 81 w (by decide) (by decide) (by decide), hn, p_w1 (by omega) (by omega)]
    rfl
  · intro g hg
    have : g ≠ 83 ∧ g ≠ 184 ∧ g ≠ 185 ∧ g ≠ 81 := by simpa [not_or] using hg
    funext j
    rw [wm_at, if_neg (fun z => this.2.2.2 z.1), t1 g j this.1 this.2.1 this.2.2.1]
  · rw [wm_at, if_neg (by omega)]
    exact t1 81 w' (by decide) (by decide) (by decide)
  · rw [wm_at, if_neg (by omega)]
    exact t83 j hj
  · rw [wm_at, if_neg (by omega)]
    rcases hp with hp | hp
    · obtain ⟨⟨_, z2, z3, z4, z5⟩, z6⟩ := a2.2.2.2 g j p hp
      rw [b2.lo (by rw [show kq (m 22) w 0 = 0 from rfl]; omega), ← z6]
      exact q1 g j z3 z4 z5
    · obtain ⟨⟨_, z2, z3, z4, z5⟩, z6⟩ := b2.2.2.2 g j p hp
      rw [← z6]
      exact t1 g j z3 z4 z5
  · rw [wm_at, if_neg (by omega), b2.lo (by rw [show kq (m 22) w 0 = 0 from rfl]; omega), ← a3, a4 s5]
    exact s1 123 0 (by decide)
