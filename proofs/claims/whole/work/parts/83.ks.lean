/-! ===== a kept state, seen in other rows ===== -/
theorem KS.kle {b : Nat} {c : h_C} {m : h_M} {w x B G : Nat} (h : KS b c m w x B G) {t : Nat} (ht : t ≤ 8 * G) : kpos m B t ≤ 30 := by
  obtain ⟨_, h2, _⟩ := h
  unfold kpos
  refine cnt_inj (p := fun s => decide (0 < m 83 (B + 17 + 19 * (s / 8) + s % 8))) (fun k => (8 * c 2016 (31 * w + k + 1) (37 * x + 4) + c 2016 (31 * w + k + 1) (37 * x + 5)).toNat) 30 _ (fun s hs hp => ?_)
  have hp' : 0 < m 83 (B + 17 + 19 * (s / 8) + s % 8) := by simpa using hp
  rcases (h2 (s / 8) (by omega)).2.2.2.2.2 (s % 8) (by omega) with e | ⟨pl, p1, p2, p3, p4, p5, p6⟩
  · omega
  · refine ⟨pl - 1, by omega, ?_⟩
    rw [show 31 * w + (pl - 1) + 1 = 31 * w + pl by omega, p5, p6]
    omega
theorem KS.cg {b : Nat} {c c' : h_C} {m m' : h_M} {w x B G : Nat} (h : KS b c m w x B G) (hG : G ≤ 40)
    (h7 : ∀ t, t < 16 → c' 2007 w (16 * x + t) = c 2007 w (16 * x + t))
    (h4 : c' 2004 (2 * w) x = c 2004 (2 * w) x) (h4' : c' 2004 (2 * w + 1) x = c 2004 (2 * w + 1) x)
    (h6 : ∀ t, t < 200 → c' 2006 (2 * w) (200 * x + t) = c 2006 (2 * w) (200 * x + t)) (h6' : ∀ t, t < 150 → c' 2006 (2 * w + 1) (150 * x + t) = c 2006 (2 * w + 1) (150 * x + t))
    (h13 : ∀ g t, g < G → t < 11 → c' 2013 (40 * w + g + 1) (11 * x + t) = c 2013 (40 * w + g + 1) (11 * x + t))
    (h16 : ∀ pl t, 1 ≤ pl → pl ≤ 30 → t < 37 → c' 2016 (31 * w + pl) (37 * x + t) = c 2016 (31 * w + pl) (37 * x + t))
    (h83 : ∀ t, t < 2600 → m' 83 (B + t) = m 83 (B + t))
    (k5 : ∀ g, g < G → m' 5 (40 * w + g) = m 5 (40 * w + g)) (k6 : ∀ g, g < G → m' 6 (40 * w + g) = m 6 (40 * w + g)) (k48 : m' 48 w = m 48 w)
    (k123 : m 123 0 ≤ m' 123 0) (kq : ∀ q : Nat, (q : Int) ≤ m 123 0 → m' 24 q = m 24 q ∧ m' 28 q = m 28 q ∧ m' 29 q = m 29 q) : KS b c' m' w x B G := by
  have hkp := fun t (ht : t ≤ 8 * G) => h.kle ht
  obtain ⟨s1, s2, s3, s4, s5, s6, s7, s8⟩ := h
  have g83 : ∀ a t, t < 2600 → a = B + t → m' 83 a = m 83 a := fun a t h1 h2 => by rw [h2]; exact h83 t h1
  have g0 : ∀ pl, 1 ≤ pl → pl ≤ 30 → c' 2016 (31 * w + pl) (37 * x) = c 2016 (31 * w + pl) (37 * x) := fun pl h1 h2 => h16 pl 0 h1 h2 (by omega)
  have hk : ∀ t, t ≤ 8 * G → kpos m' B t = kpos m B t := fun t ht => by
    unfold kpos
    refine cnt_ext t (fun s hs => ?_)
    have : m' 83 (B + 17 + 19 * (s / 8) + s % 8) = m 83 (B + 17 + 19 * (s / 8) + s % 8) := g83 _ (17 + 19 * (s / 8) + s % 8) (by omega) (by omega)
    rw [this]
  refine ⟨?_, fun g hg => ?_, fun t r ht hr => ?_, fun k hk => ?_, fun r hr hr' => ?_, fun pl p1 p2 => ?_, ?_, fun pl pl' p1 p2 p3 p4 => ?_⟩
  · have e : m' 83 B = m 83 B := g83 B 0 (by omega) rfl
    have e1 := h83 1 (by omega)
    have e2 := h83 2 (by omega)
    have e3 := h83 3 (by omega)
    have e4 := h83 4 (by omega)
    have e5 := h83 5 (by omega)
    have f : c' 2007 w (16 * x) = c 2007 w (16 * x) := h7 0 (by omega)
    rw [e, e1, e2, e3, e4, e5, f, h7 1 (by omega), h7 2 (by omega), h7 3 (by omega), h4, h4']
    obtain ⟨a1, a2, a3, a4, a5, a6, a7, a8, a9, a10, a11, a12, a13, a14⟩ := s1
    exact ⟨a1, a2, a3, a4, a5, a6, a7, a8, a9, a10, a11, a12, a13, by omega⟩
  · have e : ∀ t, t < 19 → m' 83 (B + (6 + t) + 19 * g) = m 83 (B + (6 + t) + 19 * g) := fun t ht => g83 _ (6 + t + 19 * g) (by omega) (by omega)
    have f0 : c' 2013 (40 * w + g + 1) (11 * x) = c 2013 (40 * w + g + 1) (11 * x) := h13 g 0 hg (by omega)
    obtain ⟨a1, a2, a3, a4, a5, a6⟩ := s2 g hg
    rw [show m' 83 (B + 6 + 19 * g) = _ from e 0 (by omega), show m' 83 (B + 7 + 19 * g) = _ from e 1 (by omega), show m' 83 (B + 8 + 19 * g) = _ from e 2 (by omega), show m' 83 (B + 9 + 19 * g) = _ from e 3 (by omega), show m' 83 (B + 10 + 19 * g) = _ from e 4 (by omega), show m' 83 (B + 11 + 19 * g) = _ from e 5 (by omega), show m' 83 (B + 12 + 19 * g) = _ from e 6 (by omega), show m' 83 (B + 13 + 19 * g) = _ from e 7 (by omega), show m' 83 (B + 14 + 19 * g) = _ from e 8 (by omega), show m' 83 (B + 15 + 19 * g) = _ from e 9 (by omega), show m' 83 (B + 16 + 19 * g) = _ from e 10 (by omega), f0, h13 g 1 hg (by omega), h13 g 2 hg (by omega), h13 g 3 hg (by omega), h13 g 4 hg (by omega), h13 g 5 hg (by omega), h13 g 6 hg (by omega), h13 g 7 hg (by omega), h13 g 8 hg (by omega), h13 g 9 hg (by omega), h13 g 10 hg (by omega), k5 g hg]
    refine ⟨a1, a2, a3, a4, a5, fun k hk => ?_⟩
    rw [g83 (B + 17 + 19 * g + k) (17 + 19 * g + k) (by omega) (by omega)]
    rcases a6 k hk with z | ⟨pl, p1, p2, z⟩
    · exact Or.inl z
    · refine Or.inr ⟨pl, p1, p2, ?_⟩
      rw [g0 pl p1 p2, h16 pl 4 p1 p2 (by omega), h16 pl 5 p1 p2 (by omega)]
      exact z
  · have := s3 t r ht hr
    rw [show c' 2006 (2 * w + 1) (150 * x + 5 * t + r) = c 2006 (2 * w + 1) (150 * x + 5 * t + r) by
      have := h6' (5 * t + r) (by omega)
      rwa [show 150 * x + (5 * t + r) = 150 * x + 5 * t + r by omega] at this, g83 (B + 6 + 19 * G + 4 * t + r) (6 + 19 * G + 4 * t + r) (by omega) (by omega)]
    exact this
  · rw [h6 k hk, g83 (B + 126 + 19 * G + k) (126 + 19 * G + k) (by omega) (by omega)]
    exact s4 k hk
  · rw [k48] at hr'
    have := h7 (4 + r) (by omega)
    rw [show 16 * x + (4 + r) = 16 * x + 4 + r by omega] at this
    rw [this, g83 (B + 326 + 19 * G + r) (326 + 19 * G + r) (by omega) (by omega)]
    exact s5 r hr hr'
  · rw [g0 pl p1 p2]
    rcases s6 pl p1 p2 with z | ⟨q, z1, ⟨⟨z2, z3, z4⟩, z5⟩, g, k, y1, y2, y3, y4, y5, y6, D, d0, d1, d2, d3, d4, d5, d6, d7, d8, d9, d10, d11, d12, d13, d14⟩
    · exact Or.inl z
    · have hb := s1.2.2.2.2.2.2.2.2.2.2.2.2.2
      have hkk := hkp (8 * g + k) (by omega)
      have kqq := kq q (by omega)
      have e5 := h83 5 (by omega)
      have eD : ∀ t, t < 34 → m' 83 (D + t) = m 83 (D + t) := fun t ht => g83 _ (338 + 19 * G + 34 * kpos m B (8 * g + k) + t) (by omega) (by omega)
      have eD0 : m' 83 D = m 83 D := eD 0 (by omega)
      have f := fun t (ht : t < 37) => h16 pl t p1 p2 ht
      refine Or.inr ⟨q, z1, ⟨⟨z2, by rw [e5]; exact z3, by rw [kqq.1]; exact z4⟩, ?_⟩, g, k, y1, y2, by rw [k6 g y1]; exact y3, by rw [f 4 (by omega)]; exact y4, by rw [f 5 (by omega)]; exact y5, by rw [g83 (B + 17 + 19 * g + k) (17 + 19 * g + k) (by omega) (by omega)]; exact y6, D, by rw [hk _ (by omega)]; exact d0, ?_⟩
      · rw [kqq.2.1, kqq.2.2, f 1 (by omega), f 2 (by omega)]
        exact z5
      · rw [eD0, eD 1 (by omega), eD 2 (by omega), eD 3 (by omega), eD 4 (by omega), eD 5 (by omega), f 3 (by omega), f 8 (by omega), f 7 (by omega), f 6 (by omega)]
        refine ⟨d1, d2, d3, d4, d5, d6, d7, d8, d9, d10, d11, d12, fun k hk hk' => ?_, fun k hk hk' => ?_⟩
        · have e1 := eD (6 + k) (by omega)
          have e2 := f (25 + k) (by omega)
          rw [show D + (6 + k) = D + 6 + k by omega] at e1
          rw [show 37 * x + (25 + k) = 37 * x + 25 + k by omega] at e2
          rw [e1, e2]
          exact d13 k hk hk'
        · have e1 := eD (18 + k) (by omega)
          have e2 := f (9 + k) (by omega)
          rw [show D + (18 + k) = D + 18 + k by omega] at e1
          rw [show 37 * x + (9 + k) = 37 * x + 9 + k by omega] at e2
          rw [e1, e2]
          exact d14 k hk hk'
  · rw [h83 1 (by omega), s7]
    congr 1
    exact cnt_ext 30 (fun k hk => by rw [show 31 * w + k + 1 = 31 * w + (k + 1) by omega, g0 (k + 1) (by omega) (by omega)])
  · rw [g0 pl p1 p2, g0 pl' p3 p4]
    exact s8 pl pl' p1 p2 p3 p4
