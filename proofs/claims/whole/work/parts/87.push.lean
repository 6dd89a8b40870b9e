/-- the new kept state -/
theorem KS.new {b : Nat} {c c' : h_C} {m m' : h_M} (h : RR b c m) {w : Nat} (hw : w < 3) {x B G : Nat} (hG : m 3 w = (G : Int))
    (n3 : eC [303, 2007, 2013, 2016, 2004, 2006, 212, 213] c c') (n4 : eM [83, 184, 185, 81, 82] m m')
    (c0 : c' 2007 w (16 * x) = c 300 w 0 ∧ c' 2007 w (16 * x + 1) = c 301 w 0 ∧ c' 2007 w (16 * x + 2) = c 302 w 0 ∧ c' 2007 w (16 * x + 3) = c 701 0 0 ∧ ∀ r, r < 12 → c' 2007 w (16 * x + 4 + r) = c 2003 w r)
    (c1 : ∀ g t, g < G → t < 11 → c' 2013 (40 * w + g + 1) (11 * x + t) = (gfl c (40 * w + g + 1)).getD t 0)
    (c2 : ∀ pl, 1 ≤ pl → pl ≤ 30 → PK c c' (31 * w + pl) x)
    (c3 : c' 2004 (2 * w) x = c 403 (2 * w) 0 ∧ c' 2004 (2 * w + 1) x = c 403 (2 * w + 1) 0)
    (c4 : ∀ k, k < 200 → c' 2006 (2 * w) (200 * x + k) = c 2005 (2 * w) k) (c5 : ∀ k, k < 150 → c' 2006 (2 * w + 1) (150 * x + k) = c 2005 (2 * w + 1) k)
    (m1 : ∀ g j p, (SH w G B g j p ∨ SQs (m 22) w 0 (8 * G) (B + 338 + 19 * G) g j p) → m' 83 p = m g j) (m2 : m' 83 (B + 5) = m 123 0) : KS b c' m' w x B G := by
  obtain ⟨t1, t2, t3⟩ := h.slots hw hG
  have hG40 := (h.F.1 w).2.2
  have mh : ∀ g j p, (j = w ∧ ((g = 4 ∧ p = B) ∨ (38 ≤ g ∧ g ≤ 40 ∧ p + 37 = B + g) ∨ (g = 42 ∧ p = B + 4))) → m' 83 p = m g j := fun g j p z => m1 g j p (Or.inl (Or.inl z))
  have mg : ∀ i g j p, i < G → SG (40 * w + i) (B + 6 + 19 * i) g j p → m' 83 p = m g j := fun i g j p hi z => m1 g j p (Or.inl (Or.inr (Or.inl ⟨i, by omega, hi, z⟩)))
  have ms : ∀ i k, i < G → k < 8 → m' 83 (B + 17 + 19 * i + k) = m 22 (8 * (40 * w + i) + k) := fun i k hi hk => mg i 22 _ _ hi (by unfold SG; omega)
  have mp : ∀ s q g j p, s < 8 * G → 1 ≤ q → m 22 (320 * w + s) = ((q : Nat) : Int) → SQ q (B + 338 + 19 * G + 34 * kq (m 22) w s) g j p → m' 83 p = m g j := fun s q g j p hs hq e z => m1 g j p (Or.inr ⟨s, q, by omega, hs, hq, e, z⟩)
  have hkp : ∀ t, t ≤ 8 * G → kpos m' B t = kq (m 22) w t := fun t ht => kpos_kq (fun s hs => by
    rw [ms (s / 8) (s % 8) (by omega) (by omega)]
    congr 1; omega) ht
  obtain ⟨p1, p2, p3, p4, p5⟩ := h.P
  obtain ⟨r1, r2, r3, r4⟩ := h.S w hw
  obtain ⟨⟨l1, l2, l3, l4, l5, l6⟩, k1, k2, k3, k4, k5, k6⟩ := h.L w hw
  obtain ⟨a1, a2, a3, a4⟩ := h.N
  obtain ⟨d1, d2⟩ := p5 w hw
  have hb := h.L
  refine ⟨?_, fun g hg => ?_, fun t r ht hr => ?_, fun k hk => ?_, fun r hr hr' => ?_, fun pl q1 q2 => ?_, ?_, fun pl pl' q1 q2 q3 q4 => ?_⟩
  · rw [mh 4 w B (by omega), mh 38 w (B + 1) (by omega), mh 39 w (B + 2) (by omega), mh 40 w (B + 3) (by omega), mh 42 w (B + 4) (by omega), m2, c0.1, c0.2.1, c0.2.2.1, c0.2.2.2.1, c3.1, c3.2, n4 123 (by decide)]
    exact ⟨r1, r2, r3, r4, d1, k3, k4, k5, l3, l4, l5, a1, a2, by omega⟩
  · have e := fun t ht => c1 g t hg ht
    have e0 : c' 2013 (40 * w + g + 1) (11 * x) = _ := e 0 (by omega)
    obtain ⟨⟨g1, g2, g3, g4, g5, g6, g7, g8, g9, g10⟩, f1, f2, f3, f4, _⟩ := h.G.1 (40 * w + g)
    obtain ⟨_, _, _, h15, h12⟩ := (h.G.2 w g hw (by omega)).1 (by omega)
    rw [mg g 10 (40 * w + g) (B + 6 + 19 * g) hg (by unfold SG; omega), mg g 12 (40 * w + g) (B + 7 + 19 * g) hg (by unfold SG; omega), mg g 13 (40 * w + g) (B + 8 + 19 * g) hg (by unfold SG; omega), mg g 14 (40 * w + g) (B + 9 + 19 * g) hg (by unfold SG; omega), mg g 15 (40 * w + g) (B + 10 + 19 * g) hg (by unfold SG; omega), mg g 16 (40 * w + g) (B + 11 + 19 * g) hg (by unfold SG; omega), mg g 17 (40 * w + g) (B + 12 + 19 * g) hg (by unfold SG; omega), mg g 18 (40 * w + g) (B + 13 + 19 * g) hg (by unfold SG; omega), mg g 19 (40 * w + g) (B + 14 + 19 * g) hg (by unfold SG; omega), mg g 20 (40 * w + g) (B + 15 + 19 * g) hg (by unfold SG; omega), mg g 21 (40 * w + g) (B + 16 + 19 * g) hg (by unfold SG; omega), e0, e 1 (by omega), e 2 (by omega), e 3 (by omega), e 4 (by omega), e 5 (by omega), e 6 (by omega), e 7 (by omega), e 8 (by omega), e 9 (by omega), e 10 (by omega), n4 5 (by decide)]
    refine ⟨⟨g1, g2, g3, g4, g5, g6, g7, g8, g9, h15, g10⟩, f1, f2, f3, h12, fun k hk => ?_⟩
    rw [ms g k hg hk]
    have := t1 (8 * g + k) (by omega)
    rw [show 320 * w + (8 * g + k) = 8 * (40 * w + g) + k by omega, show (8 * g + k) / 8 = g by omega, show (8 * g + k) % 8 = k by omega] at this
    rcases this with z | ⟨pl, q, z1, z2, z3, z4, z5, z6, z7, z8, z9, _⟩
    · exact Or.inl z
    · have hpk := c2 pl z1 z2
      have hq := hpk.2 (by omega)
      refine Or.inr ⟨pl, z1, z2, ?_, ?_, ?_, ?_⟩
      · rw [hpk.1, z6]; omega
      · rw [hpk.1, z6]; exact z5
      · rw [hq.1 4 (by omega)]; exact z8
      · rw [hq.1 5 (by omega)]; exact z9
  · have := c5 (5 * t + r) (by omega)
    rw [show 150 * x + (5 * t + r) = 150 * x + 5 * t + r by omega] at this
    rw [this, k6 t r ht hr]
    exact (m1 41 _ _ (Or.inl (Or.inr (Or.inr (Or.inl ⟨rfl, by omega, by omega, by omega⟩))))).symm
  · rw [c4 k hk, l6 k hk]
    exact (m1 43 _ _ (Or.inl (Or.inr (Or.inr (Or.inr (Or.inl ⟨rfl, by omega, by omega, by omega⟩)))))).symm
  · rw [n4 48 (by decide)] at hr'
    rw [c0.2.2.2.2 r hr, ((h.U w hw).2.1 r hr hr').2.2.1]
    exact (m1 51 _ _ (Or.inl (Or.inr (Or.inr (Or.inr (Or.inr ⟨rfl, by omega, by omega, by omega⟩)))))).symm
  · have hpk := c2 pl q1 q2
    rw [hpk.1]
    rcases p3 w pl hw q1 q2 with z | ⟨q, y1, y2⟩
    · exact Or.inl z
    · obtain ⟨⟨⟨u1, u2, u3, u4⟩, g, k, g40, k8, x1, x2, x3, x4, x5, x6, x7⟩, ⟨w1, w2, w3⟩, ⟨s1, s2, s3⟩, ⟨v1, v2⟩, ⟨o1, o2⟩, ⟨y3, y4, y5, y6⟩, ⟨i1, i2, i3, i4⟩⟩ := id y2
      have hpf := hpk.2 (by omega)
      have hgG : g < G := by omega
      have hs : m 22 (320 * w + (8 * g + k)) = (q : Int) := by
        have hsl := p2 w g k hw g40 k8
        unfold SL at hsl
        rw [show 320 * w + (8 * g + k) = 8 * (40 * w + g) + k by omega]
        rcases hsl with ⟨z, _⟩ | ⟨pl', z1, z2, z3, z4, z5, _⟩
        · omega
        · have : pl' = pl := by omega
          subst this
          rw [z5, y1]
      have mq := fun f j p z => mp (8 * g + k) q f j p (by omega) (by omega) hs z
      refine Or.inr ⟨q, y1, ⟨⟨u1, by rw [m2]; exact u2, by rw [n4 24 (by decide)]; exact u3⟩, ?_⟩, g, k, hgG, k8, by rw [n4 6 (by decide)]; exact x4, by rw [hpf.1 4 (by omega)]; exact x1, by rw [hpf.1 5 (by omega)]; exact x2, by rw [ms g k hgG k8, show 8 * (40 * w + g) + k = 320 * w + (8 * g + k) by omega]; exact hs, B + 338 + 19 * G + 34 * kq (m 22) w (8 * g + k), by rw [hkp _ (by omega)], ?_⟩
      · rw [n4 28 (by decide), n4 29 (by decide), hpf.1 1 (by omega), hpf.1 2 (by omega)]
        exact ⟨w1, w2, w3, s1, s2, s3⟩
      · generalize hD : B + 338 + 19 * G + 34 * kq (m 22) w (8 * g + k) = D at mq
        rw [mq 26 q D (by unfold SQ; omega), mq 27 q (D + 1) (by unfold SQ; omega), mq 30 q (D + 2) (by unfold SQ; omega), mq 31 q (D + 3) (by unfold SQ; omega), mq 33 q (D + 4) (by unfold SQ; omega), mq 35 q (D + 5) (by unfold SQ; omega), hpf.1 3 (by omega), hpf.1 8 (by omega), hpf.1 7 (by omega), hpf.1 6 (by omega)]
        refine ⟨x6, x7, v1, v2, i1, i2, i3, y3, y4, y5, o1, o2, fun k hk hk' => ?_, fun k hk hk' => ?_⟩
        · rw [mq 32 (12 * q + k) (D + 6 + k) (by unfold SQ; omega), hpf.2.2 k hk]
          exact i4 k hk hk'
        · rw [mq 34 (16 * q + k) (D + 18 + k) (by unfold SQ; omega), hpf.2.1 k hk]
          exact y6 k hk hk'
  · rw [mh 38 w (B + 1) (by omega), d2]
    congr 1
    exact cnt_ext 30 (fun k hk => by rw [show 31 * w + k + 1 = 31 * w + (k + 1) by omega, (c2 (k + 1) (by omega) (by omega)).1])
  · rw [(c2 pl q1 q2).1, (c2 pl' q3 q4).1]
    intro z1 z2
    rcases p3 w pl hw q1 q2 with z | ⟨q, y1, y2⟩
    · omega
    · rcases p3 w pl' hw q3 q4 with z | ⟨q', y1', y2'⟩
      · omega
      · have : q' = q := by omega
        subst this
        obtain ⟨⟨_, g, k, g40, k8, x1, x2, x3, x4, x5, x6, x7⟩, _⟩ := y2
        obtain ⟨⟨_, g', k', g40', k8', x1', x2', x3', x4', x5', x6', x7'⟩, _⟩ := y2'
        have e1 : g' = g := by omega
        have e2 : k' = k := by omega
        subst e1 e2
        omega
theorem ring_a {x N s j : Nat} (hx : x < 30) (hs : (N = 30 ∧ s = 1) ∨ (N < 30 ∧ s = 0)) (hj : j + s < N) : ((x + 1) % 30 + 30 - (N + 1 - s) + j) % 30 = (x + 30 - N + (j + s)) % 30 ∧ (x + 30 - N + (j + s)) % 30 ≠ x := by
  rcases hs with ⟨rfl, rfl⟩ | ⟨h, rfl⟩
  · exact ⟨by omega, by omega⟩
  · exact ⟨by omega, by omega⟩
theorem ring_b {f N s j : Nat} (hf : f < 30) (hs : (N = 30 ∧ s = 1) ∨ (N < 30 ∧ s = 0)) (hj : j + s < N) : ((f + s) % 30 + j) % 30 = (f + (j + s)) % 30 ∧ (f + (j + s)) % 30 ≠ (f + N) % 30 := by
  rcases hs with ⟨rfl, rfl⟩ | ⟨h, rfl⟩
  · exact ⟨by omega, by omega⟩
  · exact ⟨by omega, by omega⟩
theorem ring_c {x f N s : Nat} (hx : x < 30) (hf : f < 30) (hs : (N = 30 ∧ s = 1) ∨ (N < 30 ∧ s = 0)) : ((x + 1) % 30 + 30 - (N + 1 - s) + (N - s)) % 30 = x ∧ ((f + s) % 30 + (N - s)) % 30 = (f + N) % 30 := by
  rcases hs with ⟨rfl, rfl⟩ | ⟨h, rfl⟩
  · exact ⟨by omega, by omega⟩
  · exact ⟨by omega, by omega⟩
/-- keep against keep -/
theorem RR.keep {b : Nat} {c : h_C} {m : h_M} (h : RR b c m) {w : Nat} (hw : w < 3) (e1 : m 100 0 = (w : Int)) : ∃ c' m', G_Works_keep w (c 701 0 0) c = some c' ∧ G_Mo_keep m = some m' ∧ RR b c' m' ∧ eC [303, 2007, 2013, 2016, 2004, 2006, 212, 213] c c' ∧ eM [83, 184, 185, 81, 82] m m' := by
  obtain ⟨⟨k1, k2, k3, k4, k5, k6, k7⟩, _⟩ := h.K w hw
  obtain ⟨x, hx⟩ : ∃ x : Nat, c 212 w 0 = (x : Int) := ⟨(c 212 w 0).toNat, by omega⟩
  obtain ⟨f, hf⟩ : ∃ f : Nat, m 82 w = (f : Int) := ⟨(m 82 w).toNat, by omega⟩
  obtain ⟨N, hN⟩ : ∃ N : Nat, m 81 w = (N : Int) := ⟨(m 81 w).toNat, by omega⟩
  obtain ⟨f1, f2, f3⟩ := h.F.1 w
  obtain ⟨G, hG⟩ : ∃ G : Nat, m 3 w = (G : Int) := ⟨(m 3 w).toNat, by omega⟩
  have x30 : x < 30 := by omega
  have f30 : f < 30 := by omega
  obtain ⟨t1, t2, t3⟩ := h.slots hw hG
  obtain ⟨s, hs⟩ : ∃ s : Nat, (N = 30 ∧ s = 1) ∨ (N < 30 ∧ s = 0) := by
    by_cases e : N = 30
    · exact ⟨1, Or.inl ⟨e, rfl⟩⟩
    · exact ⟨0, Or.inr ⟨by omega, rfl⟩⟩
  obtain ⟨B, hB⟩ : ∃ B : Nat, B = 2600 * (30 * w + (f + N) % 30) := ⟨_, rfl⟩
  -- the reference
  obtain ⟨m0, hm0, z1, z2, z3, z4⟩ : ∃ m0, (G_Mo_keep m = GB_Mo_keep_50 m0) ∧ eM [81, 82] m m0 ∧ m0 81 w = ((N - s : Nat) : Int) ∧ m0 82 w = (((f + s) % 30 : Nat) : Int) ∧ (∀ w', w' ≠ w → m0 81 w' = m 81 w' ∧ m0 82 w' = m 82 w') := by
    rcases hs with ⟨e, rfl⟩ | ⟨e, rfl⟩
    · have er : p_rem (p_w ((f : Int) + 1)) 30 = (((f + 1) % 30 : Nat) : Int) := by
        rw [p_w1 (by omega) (by omega), p_rem1 (by omega) (by omega) (by omega)]
        omega
      refine ⟨wm (wm m 82 w (((f + 1) % 30 : Nat) : Int)) 81 w ((N - 1 : Nat) : Int), ?_, (by repeat first | exact eM.rf _ _ | refine eM.wm ?_ (by decide) _ _), by simp [wm_at], by simp [wm_at], fun w' hw' => ⟨by simp [wm_at, hw'], by simp [wm_at, hw']⟩⟩
      unfold G_Mo_keep
      rw [e1, gd1 (by omega), Int.toNat_natCast, hN, if_neg (by omega), hf, er, bi1, show (wm m 82 w (((f + 1) % 30 : Nat) : Int)) 100 0 = (w : Int) by simp [wm_at, e1], gd1 (by omega), Int.toNat_natCast, show (wm m 82 w (((f + 1) % 30 : Nat) : Int)) 81 w = (N : Int) by simp [wm_at, hN], p_w1 (by omega) (by omega), show (N : Int) - 1 = ((N - 1 : Nat) : Int) by omega]
      rfl
    · refine ⟨m, ?_, eM.rf _ _, by rw [hN]; rfl, by rw [hf, Nat.add_zero, Nat.mod_eq_of_lt (by omega)], fun w' _ => ⟨rfl, rfl⟩⟩
      unfold G_Mo_keep
      rw [e1, gd1 (by omega), Int.toNat_natCast, hN, if_pos (by omega)]
  have q22 : m0 22 = m 22 := z1 22 (by decide)
  obtain ⟨m', a1, a2, a3, a4, a5, a6, a7⟩ := n_keep hw (m := m0) (by rw [z1 100 (by decide)]; exact e1) (by rw [z1 3 (by decide)]; exact hG) (by omega) z2 z3 (by omega) (B := B) (by
      rw [hB, (ring_c x30 f30 hs).2]) (fun i => by rw [z1 14 (by decide)]; exact (h.G.1 i).2.2.1) (fun s hs => by
      rw [q22, z1 25 (by decide), z1 35 (by decide)]
      rcases t1 s hs with z | ⟨pl, q, y1, y2, y3, y4, y5, y6, y7, _⟩
      · exact Or.inl z
      · exact Or.inr ⟨q, y3, y4, y5, y7.1.1.2.2.2, y7.2.2.2.2.1.2⟩) (by rw [q22]; exact t2) (by rw [q22]; exact t3)
  rw [q22] at a6
  have a6' : ∀ g j p, (SH w G B g j p ∨ SQs (m 22) w 0 (8 * G) (B + 338 + 19 * G) g j p) → m' 83 p = m g j := fun g j p z => by
    rw [a6 g j p z]
    by_cases e : g = 81 ∨ g = 82
    · exfalso
      rcases z with z | ⟨_, q, _, _, _, _, z⟩
      · rcases z with z | ⟨g', _, _, z⟩ | z | z | z
        · omega
        · unfold SG at z; omega
        · have := z.1; omega
        · have := z.1; omega
        · have := z.1; omega
      · unfold SQ at z; omega
    · rw [z1 g (by simpa using e)]
  rw [z1 123 (by decide)] at a7
  have nM : eM [83, 184, 185, 81, 82] m m' := (z1.up (by decide)).tr (a2.up (by decide))
  -- the class
  generalize hc1 : wc c 303 w 0 (c 701 0 0) = c1
  have o1 : eC [303] c c1 := by rw [← hc1]; exact (by repeat first | exact eC.rf _ _ | refine eC.wc ?_ (by decide) _ _ _ | refine eC.sr ?_ (by decide) _ _)
  have o303 : c1 303 w 0 = c 701 0 0 := by rw [← hc1]; simp [wc_at]
  obtain ⟨c2, b1, b2, ⟨b3, b4, b5, b6, b7⟩, ⟨b8, b9, b10, b11, b12⟩, b13, b14, b15, b16, b17⟩ := s_stKeep hw x30 (G := G) (by omega) c1 (fun j => by rw [o1 7 (by decide), (h.G.1 j).1.2.1]; exact (h.G.1 j).2.2.1) (fun pl p1 p2 p3 => by
    rw [o1 107 (by decide)]
    rw [o1 101 (by decide)] at p3
    rcases h.P.2.2.1 w pl hw p1 p2 with z | ⟨q, y1, y2⟩
    · exact absurd z p3
    · rw [← y2.2.2.2.2.1.1]; exact y2.2.2.2.2.1.2)
  have n2 : eC [303, 2007, 2013, 2016, 2004, 2006] c c2 := (o1.up (by decide)).tr (b2.up (by decide))
  have er : p_rem (p_w ((x : Int) + 1)) 30 = (((x + 1) % 30 : Nat) : Int) := by
    rw [p_w1 (by omega) (by omega), p_rem1 (by omega) (by omega) (by omega)]
    omega
  generalize hc' : wc (wc c2 212 w 0 (((x + 1) % 30 : Nat) : Int)) 213 w 0 ((N + 1 - s : Nat) : Int) = c'
  have n3 : eC [303, 2007, 2013, 2016, 2004, 2006, 212, 213] c c' := by
    have : eC [212, 213] c2 c' := by rw [← hc']; exact (by repeat first | exact eC.rf _ _ | refine eC.wc ?_ (by decide) _ _ _ | refine eC.sr ?_ (by decide) _ _)
    exact (n2.up (by decide)).tr (this.up (by decide))
  have n23 : ∀ g, g ≠ 212 → g ≠ 213 → c' g = c2 g := fun g h1 h2 => by
    funext i k
    rw [← hc', wc_ne h2, wc_ne h1]
  have x212 : c' 212 w 0 = (((x + 1) % 30 : Nat) : Int) := by rw [← hc']; simp [wc_at]
  have x213 : c' 213 w 0 = ((N + 1 - s : Nat) : Int) := by rw [← hc']; simp [wc_at]
  have hC : G_Works_keep w (c 701 0 0) c = some c' := by
    unfold G_Works_keep
    rw [gd1 hw, hc1, bi1, o1 212 (by decide), hx, o1 202 (by decide), f1, hG, b1, q_some, n2 212 (by decide), hx, er, bi1]
    unfold G_Ma_min
    rw [show (wc c2 212 w 0 (((x + 1) % 30 : Nat) : Int)) 213 w 0 = (N : Int) by rw [wc_ne (by decide), n2 213 (by decide), k1, hN], p_w1 (by omega) (by omega), ← hc']
    rcases hs with ⟨e, rfl⟩ | ⟨e, rfl⟩
    · rw [if_pos (by omega), q_some, show ((N + 1 - 1 : Nat) : Int) = 30 by omega]
      rfl
    · rw [if_neg (by omega), q_some]
      rfl
  have hKS : KS b c' m' w x B G := by
    refine KS.new h hw hG n3 nM ?_ (fun g t hg ht => ?_) (fun pl p1 p2 => ?_) ?_ (fun k hk => ?_) (fun k hk => ?_) a6' a7
    · rw [n23 2007 (by decide) (by decide), b8, b9, b10, b11, o303, o1 300 (by decide), o1 301 (by decide), o1 302 (by decide)]
      exact ⟨rfl, rfl, rfl, rfl, fun r hr => by rw [b12 r hr, o1 2003 (by decide)]⟩
    · rw [n23 2013 (by decide) (by decide), b13 g t hg ht]
      unfold gfl
      rw [o1 6 (by decide), o1 7 (by decide), o1 8 (by decide), o1 9 (by decide), o1 10 (by decide), o1 11 (by decide), o1 12 (by decide), o1 13 (by decide), o1 14 (by decide), o1 15 (by decide), o1 16 (by decide)]
    · have := b14 pl p1 p2
      unfold PK pfl at this ⊢
      rw [o1 101 (by decide), o1 102 (by decide), o1 103 (by decide), o1 104 (by decide), o1 105 (by decide), o1 106 (by decide), o1 107 (by decide), o1 109 (by decide), o1 111 (by decide), o1 2014 (by decide), o1 2015 (by decide)] at this
      rw [n23 2016 (by decide) (by decide)]
      exact this
    · rw [n23 2004 (by decide) (by decide), b15.1, b15.2, o1 403 (by decide)]
      exact ⟨rfl, rfl⟩
    · rw [n23 2006 (by decide) (by decide), b16 k hk, o1 2005 (by decide)]
    · rw [n23 2006 (by decide) (by decide), b17 k hk, o1 2005 (by decide)]
  -- old states
  have v2007 : ∀ i k, (i ≠ w ∨ k < 16 * x ∨ 16 * x + 16 ≤ k) → c' 2007 i k = c 2007 i k := fun i k z => by rw [n23 2007 (by decide) (by decide), b3 i k z, o1 2007 (by decide)]
  have v2013 : ∀ i k, (i ≤ 40 * w ∨ 40 * w + G < i ∨ k < 11 * x ∨ 11 * x + 11 ≤ k) → c' 2013 i k = c 2013 i k := fun i k z => by rw [n23 2013 (by decide) (by decide), b4 i k z, o1 2013 (by decide)]
  have v2016 : ∀ i k, (i < 31 * w + 1 ∨ 31 * w + 30 < i ∨ k < 37 * x ∨ 37 * x + 37 ≤ k) → c' 2016 i k = c 2016 i k := fun i k z => by rw [n23 2016 (by decide) (by decide), b5 i k z, o1 2016 (by decide)]
  have v2004 : ∀ i k, (i / 2 ≠ w ∨ k ≠ x) → c' 2004 i k = c 2004 i k := fun i k z => by rw [n23 2004 (by decide) (by decide), b6 i k z, o1 2004 (by decide)]
  have v2006 : ∀ i k, (i ≠ 2 * w ∨ k < 200 * x ∨ 200 * x + 200 ≤ k) → (i ≠ 2 * w + 1 ∨ k < 150 * x ∨ 150 * x + 150 ≤ k) → c' 2006 i k = c 2006 i k := fun i k z z' => by rw [n23 2006 (by decide) (by decide), b7 i k z z', o1 2006 (by decide)]
  have u83 : ∀ j, (j < B ∨ B + 2600 ≤ j) → m' 83 j = m 83 j := fun j hj => by rw [a5 j hj, z1 83 (by decide)]
  have old : ∀ w' x' B' : Nat, w' < 3 → x' < 30 → (w' ≠ w ∨ x' ≠ x) → (B' + 2600 ≤ B ∨ B + 2600 ≤ B') → KS b c m w' x' B' (m 3 w').toNat → KS b c' m' w' x' B' (m 3 w').toNat := fun w' x' B' hw' hx' hn hBB hk => by
    have g40 := (h.F.1 w').2
    refine hk.cg (by omega) (fun t ht => v2007 _ _ (by omega)) (v2004 _ _ (by omega)) (v2004 _ _ (by omega)) (fun t ht => v2006 _ _ (by omega) (by omega)) (fun t ht => v2006 _ _ (by omega) (by omega)) (fun g t hg ht => v2013 _ _ (by omega)) (fun pl t p1 p2 ht => v2016 _ _ (by omega)) (fun t ht => u83 _ (by omega)) (fun g _ => by rw [nM 5 (by decide)]) (fun g _ => by rw [nM 6 (by decide)]) (by rw [nM 48 (by decide)]) (by rw [nM 123 (by decide)]; exact Int.le_refl _) (fun q _ => by rw [nM 24 (by decide), nM 28 (by decide), nM 29 (by decide)]; exact ⟨rfl, rfl, rfl⟩)
  have hK : RK b c' m' := by
    intro w' hw'
    by_cases ew : w' = w
    · subst ew
      obtain ⟨_, hk⟩ := h.K w' hw'
      have y81 : m' 81 w' = ((N + 1 - s : Nat) : Int) := by rw [a3]; congr 1; omega
      have y82 : m' 82 w' = (((f + s) % 30 : Nat) : Int) := by rw [a2 82 (by decide)]; exact z3
      have kx0 : ∀ j, kx c w' j = (x + 30 - N + j) % 30 := fun j => by unfold kx; rw [hx, k1, hN, Int.toNat_natCast, Int.toNat_natCast]
      have ky0 : ∀ j, ky m w' j = 2600 * (30 * w' + (f + j) % 30) := fun j => by unfold ky; rw [hf, Int.toNat_natCast]
      have kx1 : ∀ j, kx c' w' j = ((x + 1) % 30 + 30 - (N + 1 - s) + j) % 30 := fun j => by unfold kx; rw [x212, x213, Int.toNat_natCast, Int.toNat_natCast]
      have ky1 : ∀ j, ky m' w' j = 2600 * (30 * w' + ((f + s) % 30 + j) % 30) := fun j => by unfold ky; rw [y82, Int.toNat_natCast]
      have sh : ∀ j, j + s < N → kx c' w' j = kx c w' (j + s) ∧ ky m' w' j = ky m w' (j + s) ∧ kx c w' (j + s) ≠ x ∧ kx c w' (j + s) < 30 ∧ (ky m w' (j + s) + 2600 ≤ B ∨ B + 2600 ≤ ky m w' (j + s)) := fun j hj => by
        obtain ⟨o1, o2⟩ := ring_a x30 hs hj
        obtain ⟨o3, o4⟩ := ring_b f30 hs hj
        have o5 : (x + 30 - N + (j + s)) % 30 < 30 := Nat.mod_lt _ (by decide)
        have o6 : (f + (j + s)) % 30 < 30 := Nat.mod_lt _ (by decide)
        have o7 : (f + N) % 30 < 30 := Nat.mod_lt _ (by decide)
        rw [kx0, ky0, kx1, ky1, hB, o1, o3]
        refine ⟨rfl, rfl, o2, o5, ?_⟩
        clear o1 o2 o3 o5
        generalize (f + (j + s)) % 30 = A at *
        generalize (f + N) % 30 = A' at *
        clear hs
        omega
      have la : kx c' w' (N - s) = x ∧ ky m' w' (N - s) = B := by
        obtain ⟨o1, o2⟩ := ring_c x30 f30 hs
        rw [kx1, ky1, hB, o1, o2]
        exact ⟨rfl, rfl⟩
      refine ⟨⟨by rw [x213, y81], by rw [y81]; omega, by rw [y81]; omega, by rw [x212]; omega, by rw [x212]; omega, by rw [y82]; omega, by rw [y82]; omega⟩, fun j hj => ?_⟩
      rw [y81] at hj
      rw [nM 3 (by decide), nM 24 (by decide), nM 25 (by decide)]
      have f16 : ∀ j, j + s < N → ∀ pl, 1 ≤ pl → pl ≤ 30 → c' 2016 (31 * w' + pl) (37 * kx c w' (j + s)) = c 2016 (31 * w' + pl) (37 * kx c w' (j + s)) := fun j hj pl p1 p2 => v2016 _ _ (by have := (sh j hj).2.2.1; omega)
      have f83 : ∀ j, j + s < N → m' 83 (ky m w' (j + s) + 5) = m 83 (ky m w' (j + s) + 5) := fun j hj => u83 _ (by have := (sh j hj).2.2.2.2; omega)
      by_cases ej : j + s < N
      · obtain ⟨r1, r2, r3, r4, r5⟩ := sh j ej
        obtain ⟨y1, y2, y3⟩ := hk (j + s) (by omega)
        rw [r1, r2]
        refine ⟨old w' _ _ hw' r4 (Or.inr r3) r5 y1, fun q q1 q2 q3 q4 => ?_, fun i hi pl p1 p2 p3 p4 => ?_⟩
        · rw [f83 j ej] at q2
          obtain ⟨pl, p1, p2, p3⟩ := y2 q q1 q2 q3 q4
          exact ⟨pl, p1, p2, by rw [f16 j ej pl p1 p2]; exact p3⟩
        · rw [f16 j ej pl p1 p2] at p3 p4 ⊢
          rw [(sh i (by omega)).2.1, f83 i (by omega)] at p4
          obtain ⟨pl', p5, p6, p7⟩ := y3 (i + s) (by omega) pl p1 p2 p3 p4
          exact ⟨pl', p5, p6, by rw [(sh i (by omega)).1, f16 i (by omega) pl' p5 p6]; exact p7⟩
      · have ej' : j = N - s := by omega
        subst ej'
        rw [la.1, la.2, hG, Int.toNat_natCast]
        have pk : ∀ pl, 1 ≤ pl → pl ≤ 30 → c' 2016 (31 * w' + pl) (37 * x) = c 101 (31 * w' + pl) 0 := fun pl p1 p2 => by rw [n23 2016 (by decide) (by decide), (b14 pl p1 p2).1, o1 101 (by decide)]
        refine ⟨hKS, fun q q1 q2 q3 q4 => ?_, fun i hi pl p1 p2 p3 p4 => ?_⟩
        · rw [a7] at q2
          obtain ⟨pl, p1, p2, p3⟩ := h.P.2.2.2.1 w' q hw' q1 q2 q3 q4
          exact ⟨pl, p1, p2, by rw [pk pl p1 p2]; exact p3⟩
        · rw [pk pl p1 p2] at p3 p4 ⊢
          have ei : i + s < N := by omega
          rw [(sh i ei).2.1, f83 i ei] at p4
          rcases h.P.2.2.1 w' pl hw' p1 p2 with z | ⟨q, y1, y2⟩
          · exact absurd z p3
          · obtain ⟨⟨⟨u1, u2, u3, u4⟩, _⟩, _⟩ := y2
            rw [y1] at p4
            obtain ⟨pl', p5, p6, p7⟩ := (hk (i + s) (by omega)).2.1 q u1 p4 u3 u4
            exact ⟨pl', p5, p6, by rw [(sh i ei).1, f16 i ei pl' p5 p6, y1]; exact p7⟩
    · obtain ⟨hk0, hk⟩ := h.K w' hw'
      have x2 : c' 212 w' 0 = c 212 w' 0 ∧ c' 213 w' 0 = c 213 w' 0 := by
        rw [← hc', ← n2 212 (by decide), ← n2 213 (by decide)]
        exact ⟨by simp [wc_at, ew], by simp [wc_at, ew]⟩
      have y2 : m' 81 w' = m 81 w' ∧ m' 82 w' = m 82 w' := ⟨by rw [a4 w' ew, (z4 w' ew).1], by rw [a2 82 (by decide), (z4 w' ew).2]⟩
      have kx1 : ∀ j, kx c' w' j = kx c w' j := fun j => by unfold kx; rw [x2.1, x2.2]
      have ky1 : ∀ j, ky m' w' j = ky m w' j := fun j => by unfold ky; rw [y2.2]
      have bb : ∀ j, ky m w' j + 2600 ≤ B ∨ B + 2600 ≤ ky m w' j := fun j => by
        unfold ky
        rw [hB]
        have := Nat.mod_lt ((m 82 w').toNat + j) (show 30 > 0 by omega)
        omega
      have f16 : ∀ j pl, 1 ≤ pl → pl ≤ 30 → c' 2016 (31 * w' + pl) (37 * kx c w' j) = c 2016 (31 * w' + pl) (37 * kx c w' j) := fun j pl p1 p2 => v2016 _ _ (by omega)
      have f83 : ∀ j, m' 83 (ky m w' j + 5) = m 83 (ky m w' j + 5) := fun j => u83 _ (by have := bb j; omega)
      refine ⟨by rw [x2.1, x2.2, y2.1, y2.2]; exact hk0, fun j hj => ?_⟩
      rw [y2.1] at hj
      obtain ⟨r1, r2, r3⟩ := hk j hj
      rw [kx1, ky1, nM 3 (by decide), nM 24 (by decide), nM 25 (by decide)]
      refine ⟨old w' _ _ hw' (by unfold kx; omega) (Or.inl ew) (bb j) r1, fun q q1 q2 q3 q4 => ?_, fun i hi pl p1 p2 p3 p4 => ?_⟩
      · rw [f83] at q2
        obtain ⟨pl, p1, p2, p3⟩ := r2 q q1 q2 q3 q4
        exact ⟨pl, p1, p2, by rw [f16 j pl p1 p2]; exact p3⟩
      · rw [f16 j pl p1 p2] at p3 p4 ⊢
        rw [ky1, f83] at p4
        obtain ⟨pl', p5, p6, p7⟩ := r3 i hi pl p1 p2 p3 p4
        exact ⟨pl', p5, p6, by rw [kx1, f16 i pl' p5 p6]; exact p7⟩
  refine ⟨c', m', hC, hm0.trans a1, ?_, n3, nM⟩
  exact (RR.gen [303, 2007, 2013, 2016, 2004, 2006, 212, 213] [83, 184, 185, 81, 82] h n3 nM (Or.inl ⟨rfl, rfl⟩) (Or.inl ⟨rfl, rfl⟩) (Or.inl ⟨rfl, rfl⟩) (Or.inl ⟨rfl, rfl⟩) (Or.inl ⟨rfl, rfl⟩) (Or.inl ⟨rfl, rfl⟩) (Or.inl ⟨rfl, rfl⟩) (Or.inl ⟨rfl, rfl⟩) (Or.inl ⟨rfl, rfl⟩) (Or.inl ⟨rfl, rfl⟩) (Or.inl ⟨rfl, rfl⟩) (Or.inr hK))
