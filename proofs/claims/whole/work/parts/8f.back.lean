/-! ===== back ===== -/
def lmB : List Nat := [81, 185, 184, 44, 25, 4, 38, 39, 40, 42, 10, 12, 13, 14, 15, 16, 17, 18, 19, 20, 21, 22, 41, 43, 51, 26, 27, 30, 31, 32, 33, 34, 35]
def lcB : List Nat := [212, 213, 211, 2040, 300, 301, 302, 303, 2003, 6, 7, 8, 9, 10, 11, 12, 13, 14, 15, 16, 2012, 101, 102, 103, 104, 105, 106, 107, 109, 111, 2014, 2015, 403, 2005]
theorem ring_d {x0 N v : Nat} (hx : x0 < 30) (hN : N ≤ 30) (hv : v ≤ N) (h1 : 1 ≤ v) : (x0 + 30 - N + (N - v)) % 30 = (x0 + 30 - v) % 30 ∧ (∀ j, j < N - v → ((x0 + 30 - v) % 30 + 30 - (N - v) + j) % 30 = (x0 + 30 - N + j) % 30) := by
  refine ⟨by congr 1; omega, fun j hj => ?_⟩
  omega
theorem RR.back {b : Nat} {c : h_C} {m : h_M} (h : RR b c m) {w : Nat} (hw : w < 3) (e1 : m 100 0 = (w : Int)) (e2 : c 5000 0 0 = (w : Int)) {v : Nat} (hv1 : 1 ≤ v) (hvN : (v : Int) ≤ m 81 w) : ∃ c1 c' m1 m', G_Works_goBack w (v : Int) c = some c1 ∧ c1 5000 0 0 = (w : Int) ∧ G_Numbers_undoSince (w : Int) w c1 = some c' ∧ c1 200 = c 200 ∧ G_Mo_goOver (p_rem (p_w (m 82 w + (m 81 w - (v : Int)))) 30) (wm (wm m 81 w (m 81 w - (v : Int))) 185 0 0) = some m1 ∧ m' = wm m1 44 w 0 ∧ m1 100 0 = (w : Int) ∧ RR b c' m' ∧ eC lcB c c' ∧ eM lmB m m' := by
  obtain ⟨⟨k1, k2, k3, k4, k5, k6, k7⟩, kS⟩ := h.K w hw
  obtain ⟨x0, hx0⟩ : ∃ x : Nat, c 212 w 0 = (x : Int) := ⟨(c 212 w 0).toNat, by omega⟩
  obtain ⟨f, hf⟩ : ∃ f : Nat, m 82 w = (f : Int) := ⟨(m 82 w).toNat, by omega⟩
  obtain ⟨N, hN⟩ : ∃ N : Nat, m 81 w = (N : Int) := ⟨(m 81 w).toNat, by omega⟩
  obtain ⟨f1, f2, f3⟩ := h.F.1 w
  obtain ⟨G, hG⟩ : ∃ G : Nat, m 3 w = (G : Int) := ⟨(m 3 w).toNat, by omega⟩
  obtain ⟨n, hn⟩ : ∃ n : Nat, m 123 0 = (n : Int) := ⟨(m 123 0).toNat, by have := h.N.2.1; omega⟩
  have hn2 : n ≤ 2000 := by have := h.N.2.2.1; omega
  have x30 : x0 < 30 := by omega
  have f30 : f < 30 := by omega
  have N30 : N ≤ 30 := by omega
  have vN : v ≤ N := by omega
  have G40 : G ≤ 40 := by omega
  obtain ⟨rd1, rd2⟩ := ring_d x30 N30 vN hv1
  obtain ⟨x, hx⟩ : ∃ x : Nat, x = (x0 + 30 - v) % 30 := ⟨_, rfl⟩
  have hx30 : x < 30 := by rw [hx]; exact Nat.mod_lt _ (by decide)
  obtain ⟨y, hy⟩ : ∃ y : Nat, y = (f + (N - v)) % 30 := ⟨_, rfl⟩
  have hy30 : y < 30 := by rw [hy]; exact Nat.mod_lt _ (by decide)
  obtain ⟨B, hB⟩ : ∃ B : Nat, B = 2600 * (30 * w + y) := ⟨_, rfl⟩
  have kx0 : ∀ j, kx c w j = (x0 + 30 - N + j) % 30 := fun j => by unfold kx; rw [hx0, k1, hN, Int.toNat_natCast, Int.toNat_natCast]
  have ky0 : ∀ j, ky m w j = 2600 * (30 * w + (f + j) % 30) := fun j => by unfold ky; rw [hf, Int.toNat_natCast]
  have kxJ : kx c w (N - v) = x := by rw [kx0, rd1, hx]
  have kyJ : ky m w (N - v) = B := by rw [ky0, hB, hy]
  obtain ⟨hKS, hK2, hK3⟩ := kS (N - v) (by omega)
  rw [kxJ, kyJ, hG, Int.toNat_natCast] at hKS
  rw [kxJ, kyJ] at hK2
  rw [kxJ] at hK3
  obtain ⟨st1, st2⟩ := hKS.st G40
  have hgv : m 83 (B + 5) ≤ m 123 0 := hKS.1.2.2.2.2.2.2.2.2.2.2.2.2.2
  have hgv0 : 0 ≤ m 83 (B + 5) := hKS.1.2.2.2.2.2.2.2.2.2.2.2.2.1
  have hdist := hKS.2.2.2.2.2.2.2
  -- the reference
  generalize hma : wm (wm m 81 w (m 81 w - (v : Int))) 185 0 0 = ma
  have na : eM [81, 185] m ma := by rw [← hma]; exact (by repeat first | exact eM.rf _ _ | refine eM.wm ?_ (by decide) _ _)
  have kpa : ∀ t, kpos ma B t = kpos m B t := fun t => by unfold kpos; rw [na 83 (by decide)]
  obtain ⟨mb, r, b1, b2, b3, b4, b5, b6, b7⟩ := n_load hw (m := ma) (by rw [na 100 (by decide)]; exact e1) hy30 (by rw [na 3 (by decide)]; exact hG) G40 (by rw [← hma]; simp [wm_at]) hB (n := n) (by rw [na 123 (by decide)]; exact hn) hn2 (fun g hg => by rw [na 83 (by decide)]; exact (hKS.2.1 g hg).2.2.1) (fun s hs => by
      rw [na 83 (by decide), kpa]
      rcases (hKS.2.1 (s / 8) (by omega)).2.2.2.2.2 (s % 8) (by omega) with z | ⟨pl, z1, z2, z3, z4, z5, z6⟩
      · exact Or.inl z
      · obtain ⟨q, u1, u2, u3, u4, u5, u6, u7⟩ := st2 pl (s / 8) (s % 8) z1 z2 ⟨by omega, z5, z6⟩
        obtain ⟨⟨⟨_, u8, _⟩, _⟩, g', k', y1, y2, y3, y4, y5, y6, D, d0, _, _, _, _, _, _, _, _, _, _, _, d12, _⟩ := u7
        have eg : g' = s / 8 := by omega
        have ek : k' = s % 8 := by omega
        refine Or.inr ⟨q, u1, by omega, u5, ?_⟩
        rw [show B + 338 + 19 * G + 34 * kpos m B s + 5 = D + 5 by rw [d0, eg, ek, show 8 * (s / 8) + s % 8 = s by omega]]
        exact d12) (fun s s' hs hs' h0 he => by
      rw [na 83 (by decide)] at h0 he
      obtain ⟨q, hq⟩ : ∃ q : Nat, m 83 (B + 17 + 19 * (s / 8) + s % 8) = (q : Int) := ⟨(m 83 (B + 17 + 19 * (s / 8) + s % 8)).toNat, by omega⟩
      obtain ⟨pl, p1, p2, p3, p4, p5, _⟩ := st1 s q hs (by omega) hq
      obtain ⟨pl', p1', p2', p3', p4', p5', _⟩ := st1 s' q hs' (by omega) (by omega)
      have := hdist pl pl' p1 p2 p1' p2' (by omega) (by omega)
      subst this
      omega) (by rw [kpa]; exact hKS.kle (Nat.le_refl _))
  rw [na 83 (by decide)] at b3 b5 b6 b7
  have hr : r83 m w B G r := fun s hs => by rw [b2 s hs, na 83 (by decide)]
  generalize hm' : wm mb 44 w 0 = m'
  have nb : eM [44] mb m' := by rw [← hm']; exact (by repeat first | exact eM.rf _ _ | refine eM.wm ?_ (by decide) _ _)
  have cH : ∀ g j p, SH w G B g j p → g ∈ [4, 38, 39, 40, 42, 10, 12, 13, 14, 15, 16, 17, 18, 19, 20, 21, 22, 41, 43, 51] := fun g j p z => by
    have hh : g = 4 ∨ g = 38 ∨ g = 39 ∨ g = 40 ∨ g = 42 ∨ g = 10 ∨ (12 ≤ g ∧ g ≤ 22) ∨ g = 41 ∨ g = 43 ∨ g = 51 := by
      rcases z with z | ⟨g', _, _, z⟩ | z | z | z
      · omega
      · unfold SG at z; omega
      · have := z.1; omega
      · have := z.1; omega
      · have := z.1; omega
    simp only [List.mem_cons, List.not_mem_nil, or_false]
    omega
  have cQ : ∀ g j p, SQs r w 0 (8 * G) (B + 338 + 19 * G) g j p → g ∈ [26, 27, 30, 31, 32, 33, 34, 35] := fun g j p z => by
    obtain ⟨_, _, _, _, _, _, z⟩ := z
    unfold SQ at z
    simp only [List.mem_cons, List.not_mem_nil, or_false]
    omega
  have nM : eM lmB m m' := fun g hg => by
    funext j
    rw [nb g (fun z => hg (by revert z; clear hg; revert g; decide)), b4 g j (fun z => hg (by rw [z]; decide)) (fun z => hg (by rw [z]; decide)) (fun p z => hg (by have := cH g j p z; revert this; clear z hg; revert g; decide)) (fun p z => hg (by have := cQ g j p z; revert this; clear z hg; revert g; decide)), na g (fun z => hg (by revert z; clear hg; revert g; decide))]
  have mN : ∀ g j, g ∉ [81, 185, 184, 44, 25] → (∀ p, ¬ SH w G B g j p) → (∀ p, ¬ SQs r w 0 (8 * G) (B + 338 + 19 * G) g j p) → m' g j = m g j := fun g j hg h1 h2 => by
    simp only [List.mem_cons, List.not_mem_nil, or_false, not_or] at hg
    rw [nb g (by simp [hg]), b4 g j hg.2.2.2.2 hg.2.2.1 h1 h2, na g (by simp [hg])]
  have mH : ∀ g j p, (SH w G B g j p ∨ SQs r w 0 (8 * G) (B + 338 + 19 * G) g j p) → m' g j = m 83 p := fun g j p z => by
    have h44 : g ≠ 44 := by
      rcases z with z | z
      · have := cH g j p z; revert this; clear z; revert g; decide
      · have := cQ g j p z; revert this; clear z; revert g; decide
    rw [nb g (by simpa using h44), b5 g j p z]
  have m25a : ∀ q : Nat, (∃ s, s < 8 * G ∧ 1 ≤ q ∧ m 83 (B + 17 + 19 * (s / 8) + s % 8) = (q : Int)) → m' 25 q = 1 := fun q hq => by rw [nb 25 (by decide)]; exact b6 q hq
  have m25b : ∀ q : Nat, (¬ ∃ s, s < 8 * G ∧ 1 ≤ q ∧ m 83 (B + 17 + 19 * (s / 8) + s % 8) = (q : Int)) → m' 25 q = if 1 ≤ q ∧ (q : Int) ≤ m 123 0 ∧ m 24 q = (w : Int) ∧ (m 83 (B + 5) < (q : Int) ∨ m 25 q = 1) then 0 else m 25 q := fun q hq => by
    rw [nb 25 (by decide), b7 q hq, na 24 (by decide), na 25 (by decide), hn]
    by_cases hc : 1 ≤ q ∧ q ≤ n ∧ m 24 q = (w : Int) ∧ (m 83 (B + 5) < (q : Int) ∨ m 25 q = 1)
    · rw [if_pos hc, if_pos ⟨hc.1, by omega, hc.2.2⟩]
    · rw [if_neg hc, if_neg (fun z => hc ⟨z.1, by omega, z.2.2⟩)]
  have m44 : m' 44 w = 0 := by rw [← hm']; simp [wm_at]
  have m81 : m' 81 w = ((N - v : Nat) : Int) := by
    rw [nb 81 (by decide), b4 81 w (by decide) (by decide) (fun p z => absurd (cH _ _ _ z) (by decide)) (fun p z => absurd (cQ _ _ _ z) (by decide)), ← hma]
    rw [wm_at, if_neg (by omega), wm_at, if_pos ⟨rfl, rfl⟩, hN]
    omega
  have m81' : ∀ w', w' ≠ w → m' 81 w' = m 81 w' := fun w' hw' => by
    rw [nb 81 (by decide), b4 81 w' (by decide) (by decide) (fun p z => absurd (cH _ _ _ z) (by decide)) (fun p z => absurd (cQ _ _ _ z) (by decide)), ← hma, wm_at, if_neg (by omega), wm_at, if_neg (by omega)]
  have m44' : ∀ w', w' ≠ w → m' 44 w' = m 44 w' := fun w' hw' => by
    rw [← hm', wm_at, if_neg (by omega), b4 44 w' (by decide) (by decide) (fun p z => absurd (cH _ _ _ z) (by decide)) (fun p z => absurd (cQ _ _ _ z) (by decide)), na 44 (by decide)]
  -- the class
  generalize hc1 : wc (wc (wc c 212 w 0 (x : Int)) 213 w 0 ((N - v : Nat) : Int)) 211 w 0 0 = c1
  have o1 : eC [212, 213, 211] c c1 := by rw [← hc1]; exact (by repeat first | exact eC.rf _ _ | refine eC.wc ?_ (by decide) _ _ _ | refine eC.sr ?_ (by decide) _ _)
  have iS : ∀ pl g k, IS c1 w x pl g k ↔ IS c w x pl g k := fun pl g k => by unfold IS; rw [o1 2016 (by decide)]
  obtain ⟨c2, a1, a2, ⟨a3, a4, a5, a6⟩, ⟨a7, a8, a9, a10, a11⟩, a12, a13, a14, a15, a16, a17, a18⟩ := s_stBack hw hx30 G40 c1 (fun g hg => by
      rw [o1 2013 (by decide), (hKS.2.1 g hg).1.2.1]; exact (hKS.2.1 g hg).2.2.1) (fun pl p1 p2 p3 => by
      rw [o1 2016 (by decide)] at p3 ⊢
      rcases hKS.2.2.2.2.2.1 pl p1 p2 with z | ⟨q, z1, z2⟩
      · exact absurd z p3
      · obtain ⟨_, g', k', y1, y2, y3, y4, y5, y6, D, d0, _, _, _, _, _, _, _, _, _, _, d11, d12, _⟩ := z2
        exact ⟨by rw [← d11]; exact d12, g', k', by omega, y2, by rw [iS]; exact ⟨p3, y4, y5⟩⟩) (fun pl pl' g k p1 p2 p3 p4 z z' => by
      rw [iS] at z z'
      obtain ⟨q, u1, u2, u3, u4, u5, _⟩ := st2 pl g k p1 p2 z
      obtain ⟨q', u1', u2', u3', u4', u5', _⟩ := st2 pl' g k p3 p4 z'
      exact hdist pl pl' p1 p2 p3 p4 (by omega) (by omega))
  have o2 : eC ([212, 213, 211] ++ sbL) c c2 := (o1.up (by decide)).tr (a2.up (by decide))
  have hgB : G_Works_goBack w (v : Int) c = some c2 := by
    unfold G_Works_goBack
    rw [gd1 hw, hx0, s_floor c x30 (by omega), q_some, ← hx, bi1, show (wc c 212 w 0 (x : Int)) 213 w 0 = (N : Int) by rw [wc_ne (by decide), k1, hN], p_w1 (by omega) (by omega), show (N : Int) - (v : Int) = ((N - v : Nat) : Int) by omega, bi1, hc1, bi1, show c1 212 w 0 = (x : Int) by rw [← hc1]; simp [wc_at], o1 202 (by decide), f1, hG, a1, q_some]
  -- numbers
  have g303 : c2 303 w 0 = m 83 (B + 5) := by rw [a10, o1 2007 (by decide)]; exact hKS.1.2.2.2.2.2.2.2.2.2.2.2.1
  obtain ⟨gv, hgvn⟩ : ∃ gv : Nat, m 83 (B + 5) = (gv : Int) := ⟨(m 83 (B + 5)).toNat, by omega⟩
  have p101 : ∀ pl, 1 ≤ pl → pl ≤ 30 → c2 101 (31 * w + pl) 0 = c 2016 (31 * w + pl) (37 * x) := fun pl p1 p2 => by
    have := (a13 pl p1 p2).1
    rw [o1 2016 (by decide)] at this
    exact this
  have r2040 : ∀ q : Nat, 1 ≤ q → q ≤ n → c2 2040 0 q = c 2040 0 q := fun q _ _ => by rw [o2 2040 (by decide)]
  obtain ⟨n1, n2, n3, n4⟩ := h.N
  have b2040 : ∀ q : Nat, 1 ≤ q → q ≤ n → c 2040 0 q < 2147483648 := fun q q1 q2 => by
    obtain ⟨z1, z2, z3, z4, z5⟩ := n4 q q1 (by omega)
    rw [z4]
    rcases z1 with z | z | z
    · rw [if_pos z]; omega
    · rw [if_neg (by omega), if_pos z]; omega
    · have := z5 z
      rw [if_neg (by omega), if_neg (by omega)]; omega
  obtain ⟨c3, d1, d2, d3⟩ := s_undo1 hw hn2 (n - gv) (gv + 1) 3000 c2 (by omega) (by omega) (by omega) (by rw [o2 701 (by decide), n1, hn]) (fun q q1 q2 => by rw [r2040 q (by omega) q2]; exact b2040 q (by omega) q2)
  obtain ⟨c', i1, i2, i3, i4⟩ := s_undo2 hw 30 1 3000 c3 (by omega) (by omega) (by omega) (fun pl p1 p2 => by
    rw [d2 101 (by decide), p101 pl p1 p2]
    rcases hKS.2.2.2.2.2.1 pl p1 p2 with z | ⟨q, z1, z2⟩
    · omega
    · have := z2.1.1.2.1
      omega)
  have d23 : eC [2040] c2 c' := d2.tr i2
  have nC : eC lcB c c' := (o2.up (by decide)).tr (d23.up (by decide))
  have hU : G_Numbers_undoSince (w : Int) w c2 = some c' := by
    unfold G_Numbers_undoSince
    rw [gd1 hw, g303, hgvn, p_w1 (by omega) (by omega), bi1]
    exact d1.trans i1
  have eqc : ∀ f', f' ≠ 2040 → c' f' = c2 f' := fun f' hf' => d23 f' (by simpa using hf')
  -- groups
  have hP : RP b c' m' := RP.back h hw hG hKS (by rw [nC 100 (by decide)]) (fun f i hf hi => by
      rw [eqc f (by revert hf; revert f; decide), a5 f i hf hi, o1 f (by revert hf; revert f; decide)]) (fun pl p1 p2 => by
      have := a13 pl p1 p2
      unfold PB pfl at this ⊢
      rw [eqc 101 (by decide), eqc 102 (by decide), eqc 103 (by decide), eqc 104 (by decide), eqc 105 (by decide), eqc 106 (by decide), eqc 107 (by decide), eqc 109 (by decide), eqc 111 (by decide), eqc 2014 (by decide), eqc 2015 (by decide)]
      rw [o1 2016 (by decide)] at this
      exact this) (fun pl g k p1 p2 hg hk z => by rw [eqc 2012 (by decide)]; exact a14 pl g k p1 p2 hg hk (by rw [iS]; exact z)) (fun i k hk z => by
      rw [eqc 2012 (by decide), a15 i k hk (fun pl g y1 y2 y3 y4 y5 => z pl g y1 y2 y3 y4 (by rw [iS] at y5; exact y5)), o1 2012 (by decide)]) (by rw [eqc 302 (by decide), a9, o1 2007 (by decide)]) (fun i hi => by rw [eqc 302 (by decide), a3 302 i (by decide) hi, o1 302 (by decide)]) hr (fun f hf => nM f (by revert hf; revert f; decide)) (fun g j hg h1 h2 => mN g j (by revert hg; clear h1 h2; revert g; decide) h1 h2) (fun g j p hg z => mH g j p z) m25a m25b
  have hGr : RG c' m' := by
    have mg : ∀ g f p, g < G → SG (40 * w + g) (B + 6 + 19 * g) f (40 * w + g) p → m' f (40 * w + g) = m 83 p := fun g f p hg z => mH f _ p (Or.inl (Or.inr (Or.inl ⟨g, by omega, hg, z⟩)))
    have cg : ∀ g t, g < G → t < 11 → (gfl c' (40 * w + g + 1)).getD t 0 = c 2013 (40 * w + g + 1) (11 * x + t) := fun g t hg ht => by
      have := a12 g t hg ht
      rw [o1 2013 (by decide)] at this
      rw [← this]
      unfold gfl
      rw [eqc 6 (by decide), eqc 7 (by decide), eqc 8 (by decide), eqc 9 (by decide), eqc 10 (by decide), eqc 11 (by decide), eqc 12 (by decide), eqc 13 (by decide), eqc 14 (by decide), eqc 15 (by decide), eqc 16 (by decide)]
    have co : ∀ f i, f ∈ [6, 7, 8, 9, 10, 11, 12, 13, 14, 15, 16] → (i < 40 * w ∨ 40 * w + G ≤ i) → c' f (i + 1) = c f (i + 1) := fun f i hf hi => by
      rw [eqc f (by revert hf; revert f; decide), a4 f (i + 1) hf (by omega), o1 f (by revert hf; revert f; decide)]
    have mo : ∀ f i, f ∈ [10, 12, 13, 14, 15, 16, 17, 18, 19, 20, 21] → (i < 40 * w ∨ 40 * w + G ≤ i) → m' f i = m f i := fun f i hf hi => by
      have hf' : 10 ≤ f ∧ f ≤ 21 := by revert hf; revert f; decide
      refine mN f i (by revert hf; clear hf'; revert f; decide) (fun p z => ?_) (fun p z => ?_)
      · rcases z with z | ⟨g', _, z2, z⟩ | z | z | z
        · omega
        · unfold SG at z; omega
        · have := z.1; omega
        · have := z.1; omega
        · have := z.1; omega
      · obtain ⟨_, _, _, _, _, _, z⟩ := z
        unfold SQ at z; omega
    obtain ⟨g1, g2⟩ := h.G
    refine ⟨fun i => ?_, fun w' g hw' hg => ?_⟩
    · obtain ⟨x1, x2, x3, x4, x5, x6, x7, x8⟩ := g1 i
      rw [nC 2 (by decide), nC 2010 (by decide), nC 2011 (by decide), nM 5 (by decide), nM 9 (by decide), nM 8 (by decide), nM 11 (by decide)]
      by_cases hi : i < 40 * w ∨ 40 * w + G ≤ i
      · rw [co 6 i (by decide) hi, co 7 i (by decide) hi, co 8 i (by decide) hi, co 9 i (by decide) hi, co 10 i (by decide) hi, co 11 i (by decide) hi, co 12 i (by decide) hi, co 13 i (by decide) hi, co 14 i (by decide) hi, co 16 i (by decide) hi, mo 10 i (by decide) hi, mo 13 i (by decide) hi, mo 14 i (by decide) hi, mo 15 i (by decide) hi, mo 16 i (by decide) hi, mo 17 i (by decide) hi, mo 18 i (by decide) hi, mo 19 i (by decide) hi, mo 20 i (by decide) hi, mo 21 i (by decide) hi]
        exact ⟨x1, x2, x3, x4, x5, x6, x7, x8⟩
      · obtain ⟨g, rfl⟩ : ∃ g, i = 40 * w + g := ⟨i - 40 * w, by omega⟩
        have hg : g < G := by omega
        obtain ⟨⟨y1, y2, y3, y4, y5, y6, y7, y8, y9, y10, y11⟩, z1, z2, z3, z4, _⟩ := hKS.2.1 g hg
        have q0 : c' 6 (40 * w + g + 1) 0 = _ := cg g 0 hg (by omega)
        have q1 : c' 7 (40 * w + g + 1) 0 = _ := cg g 1 hg (by omega)
        have q2 : c' 8 (40 * w + g + 1) 0 = _ := cg g 2 hg (by omega)
        have q3 : c' 9 (40 * w + g + 1) 0 = _ := cg g 3 hg (by omega)
        have q4 : c' 10 (40 * w + g + 1) 0 = _ := cg g 4 hg (by omega)
        have q5 : c' 11 (40 * w + g + 1) 0 = _ := cg g 5 hg (by omega)
        have q6 : c' 12 (40 * w + g + 1) 0 = _ := cg g 6 hg (by omega)
        have q7 : c' 13 (40 * w + g + 1) 0 = _ := cg g 7 hg (by omega)
        have q8 : c' 14 (40 * w + g + 1) 0 = _ := cg g 8 hg (by omega)
        have q10 : c' 16 (40 * w + g + 1) 0 = _ := cg g 10 hg (by omega)
        rw [q0, q1, q2, q3, q4, q5, q6, q7, q8, q10, mg g 10 (B + 6 + 19 * g) hg (by unfold SG; omega), mg g 13 (B + 8 + 19 * g) hg (by unfold SG; omega), mg g 14 (B + 9 + 19 * g) hg (by unfold SG; omega), mg g 15 (B + 10 + 19 * g) hg (by unfold SG; omega), mg g 16 (B + 11 + 19 * g) hg (by unfold SG; omega), mg g 17 (B + 12 + 19 * g) hg (by unfold SG; omega), mg g 18 (B + 13 + 19 * g) hg (by unfold SG; omega), mg g 19 (B + 14 + 19 * g) hg (by unfold SG; omega), mg g 20 (B + 15 + 19 * g) hg (by unfold SG; omega), mg g 21 (B + 16 + 19 * g) hg (by unfold SG; omega)]
        exact ⟨⟨y1, y2, y3, y4, y5, y6, y7, y8, y9, y11⟩, z1, z2, z3, x5, x6, x7, x8⟩
    · obtain ⟨x1, x2⟩ := g2 w' g hw' hg
      rw [nC 3 (by decide), nM 3 (by decide), nM 7 (by decide)]
      refine ⟨fun hgl => ?_, x2⟩
      obtain ⟨y1, y2, y3, y4, y5⟩ := x1 hgl
      refine ⟨y1, y2, y3, ?_⟩
      by_cases hi : 40 * w' + g < 40 * w ∨ 40 * w + G ≤ 40 * w' + g
      · rw [co 15 _ (by decide) hi, mo 12 _ (by decide) hi]
        exact ⟨y4, y5⟩
      · have ew : w' = w := by omega
        subst ew
        have hg : g < G := by omega
        obtain ⟨⟨_, _, _, _, _, _, _, _, _, z10, _⟩, _, _, _, z4, _⟩ := hKS.2.1 g hg
        have q9 : c' 15 (40 * w' + g + 1) 0 = _ := cg g 9 hg (by omega)
        rw [q9, mg g 12 (B + 7 + 19 * g) hg (by unfold SG; omega)]
        exact ⟨z10, z4⟩
  have stq : ∀ q : Nat, 1 ≤ q → ((∃ s, s < 8 * G ∧ 1 ≤ q ∧ m 83 (B + 17 + 19 * (s / 8) + s % 8) = (q : Int)) ↔ ∃ pl, 1 ≤ pl ∧ pl ≤ 30 ∧ c 2016 (31 * w + pl) (37 * x) = (q : Int)) := fun q q1 => ⟨fun ⟨s, s1, s2, s3⟩ => by
      obtain ⟨pl, p1, p2, p3, _⟩ := st1 s q s1 s2 s3
      exact ⟨pl, p1, p2, p3⟩, fun ⟨pl, p1, p2, p3⟩ => by
      rcases hKS.2.2.2.2.2.1 pl p1 p2 with z | ⟨q', z1, z2⟩
      · omega
      · obtain ⟨_, g', k', y1, y2, y3, y4, y5, y6, _⟩ := z2
        have : q' = q := by omega
        subst this
        exact ⟨8 * g' + k', by omega, q1, by rw [show (8 * g' + k') / 8 = g' by omega, show (8 * g' + k') % 8 = k' by omega]; exact y6⟩⟩
  have hNr : RN c' m' := by
    refine ⟨by rw [nC 701 (by decide), nM 123 (by decide)]; exact n1, by rw [nM 123 (by decide)]; exact n2, by rw [nM 123 (by decide)]; exact n3, fun q q1 q2 => ?_⟩
    rw [nM 123 (by decide)] at q2
    obtain ⟨z1, z2, z3, z4, z5⟩ := n4 q q1 q2
    rw [nM 24 (by decide), nM 37 (by decide)]
    by_cases hs : ∃ pl, 1 ≤ pl ∧ pl ≤ 30 ∧ c 2016 (31 * w + pl) (37 * x) = (q : Int)
    · have m1 := m25a q ((stq q q1).mpr hs)
      obtain ⟨pl, p1, p2, p3⟩ := hs
      have h24 : m 24 q = (w : Int) := by
        rcases hKS.2.2.2.2.2.1 pl p1 p2 with z | ⟨q', y1, y2⟩
        · omega
        · have : q' = q := by omega
          subst this
          exact y2.1.1.2.2
      rw [m1, i3 pl q p1 p2 q1 (by rw [d2 101 (by decide), p101 pl p1 p2]; exact p3), if_neg (by decide), if_pos rfl, h24]
      exact ⟨Or.inr (Or.inl rfl), by omega, by omega, rfl, fun z => by omega⟩
    · have m1 := m25b q (fun z => hs ((stq q q1).mp z))
      have c1' : c' 2040 0 q = _ := i4 q q1 (fun pl p1 p2 z => hs ⟨pl, p1, p2, by rw [← p101 pl p1 p2, ← d2 101 (by decide)]; exact z⟩)
      rw [c1', d3 q, r2040 q q1 (by omega), m1, hgvn]
      by_cases h24 : m 24 q = (w : Int)
      · by_cases hg : gv < q
        · rw [if_pos (show 1 ≤ q ∧ (q : Int) ≤ m 123 0 ∧ m 24 q = (w : Int) ∧ ((gv : Int) < (q : Int) ∨ m 25 q = 1) from ⟨q1, q2, h24, Or.inl (by omega)⟩), if_pos rfl]
          refine ⟨Or.inl rfl, z2, z3, ?_, fun z => by omega⟩
          by_cases hcc : gv + 1 ≤ q ∧ q ≤ n ∧ (c 2040 0 q = -10 - (w : Int) ∨ (0 ≤ c 2040 0 q ∧ c 2040 0 q / 1000 = (w : Int)))
          · rw [if_pos hcc]
          · rw [if_neg hcc, z4]
            rcases z1 with z | z | z
            · rw [if_pos z]
            · exfalso
              refine hcc ⟨by omega, by omega, Or.inl ?_⟩
              rw [z4, if_neg (by omega), if_pos z, h24]
            · exfalso
              have := z5 z
              have e : c 2040 0 q = 1000 * (w : Int) + m 37 q := by rw [z4, if_neg (by omega), if_neg (by omega), h24]
              exact hcc ⟨by omega, by omega, Or.inr ⟨by omega, by omega⟩⟩
        · rw [if_neg (show ¬ (gv + 1 ≤ q ∧ q ≤ n ∧ (c 2040 0 q = -10 - (w : Int) ∨ (0 ≤ c 2040 0 q ∧ c 2040 0 q / 1000 = (w : Int)))) by omega)]
          by_cases h25 : m 25 q = 1
          · exfalso
            exact hs (hK2 q q1 (by omega) h24 h25)
          · rw [if_neg (show ¬ (1 ≤ q ∧ (q : Int) ≤ m 123 0 ∧ m 24 q = (w : Int) ∧ ((gv : Int) < (q : Int) ∨ m 25 q = 1)) by omega)]
            exact ⟨z1, z2, z3, z4, z5⟩
      · rw [if_neg (show ¬ (1 ≤ q ∧ (q : Int) ≤ m 123 0 ∧ m 24 q = (w : Int) ∧ ((gv : Int) < (q : Int) ∨ m 25 q = 1)) by omega), if_neg (fun z => ?_)]
        · exact ⟨z1, z2, z3, z4, z5⟩
        · have z' := z.2.2
          rw [z4] at z'
          rcases z1 with y | y | y
          · rw [if_pos y] at z'; omega
          · rw [if_neg (by omega), if_pos y] at z'; omega
          · have := z5 y
            rw [if_neg (by omega), if_neg (by omega)] at z'
            omega
  have hL : RL b c' m' := fun w' hw' => by
    obtain ⟨⟨l1, l2, l3, l4, l5, l6⟩, t1, t2, t3, t4, t5, t6⟩ := h.L w' hw'
    rw [nC 400 (by decide), nC 401 (by decide)]
    by_cases ew : w' = w
    · subst ew
      obtain ⟨⟨y1, y2, y3, y4, y5, y6, y7, y8, y9, y10, y11, y12, y13, y14⟩, _, y15, y16, _⟩ := id hKS
      rw [eqc 403 (by decide), eqc 2005 (by decide), a16.1, a16.2, o1 2004 (by decide), mH 42 w' (B + 4) (Or.inl (Or.inl ⟨rfl, by omega⟩)), mH 40 w' (B + 3) (Or.inl (Or.inl ⟨rfl, by omega⟩))]
      refine ⟨⟨l1, l2, y9, y10, y11, fun k hk => ?_⟩, t1, t2, y6, y7, y8, fun t r ht hr => ?_⟩
      · rw [a17 k hk, o1 2006 (by decide), y16 k hk]
        exact (mH 43 _ _ (Or.inl (Or.inr (Or.inr (Or.inr (Or.inl ⟨rfl, by omega, by omega, by omega⟩)))))).symm
      · rw [a18 (5 * t + r) (by omega), o1 2006 (by decide), show 150 * x + (5 * t + r) = 150 * x + 5 * t + r by omega, y15 t r ht hr]
        exact (mH 41 _ _ (Or.inl (Or.inr (Or.inr (Or.inl ⟨rfl, by omega, by omega, by omega⟩))))).symm
    · have q403 : ∀ i, i ≠ 2 * w ∧ i ≠ 2 * w + 1 → c' 403 i = c 403 i := fun i hi => by rw [eqc 403 (by decide), a6 403 i (by decide) hi, o1 403 (by decide)]
      have q2005 : ∀ i, i ≠ 2 * w ∧ i ≠ 2 * w + 1 → c' 2005 i = c 2005 i := fun i hi => by rw [eqc 2005 (by decide), a6 2005 i (by decide) hi, o1 2005 (by decide)]
      have mw : ∀ g j, g ∈ [40, 41, 42, 43] → (g = 40 ∨ g = 42 → j ≠ w) → (g = 41 → j < 120 * w ∨ 120 * w + 120 ≤ j) → (g = 43 → j < 200 * w ∨ 200 * w + 200 ≤ j) → m' g j = m g j := fun g j hg v1 v2 v3 => by
        have hg' : 40 ≤ g ∧ g ≤ 43 := by clear v1 v2 v3; revert hg; revert g; decide
        refine mN g j (by clear v1 v2 v3 hg'; revert hg; revert g; decide) (fun p z => ?_) (fun p z => ?_)
        · rcases z with z | ⟨g', _, z2, z⟩ | z | z | z
          · omega
          · unfold SG at z; omega
          · unfold SP at z; omega
          · unfold SP at z; omega
          · unfold SP at z; omega
        · obtain ⟨_, _, _, _, _, _, z⟩ := z
          unfold SQ at z; omega
      rw [q403 _ (by omega), q403 _ (by omega), q2005 _ (by omega), q2005 _ (by omega), mw 42 w' (by decide) (by omega) (by omega) (by omega), mw 40 w' (by decide) (by omega) (by omega) (by omega)]
      refine ⟨⟨l1, l2, l3, l4, l5, fun k hk => ?_⟩, t1, t2, t3, t4, t5, fun t r ht hr => ?_⟩
      · rw [mw 43 _ (by decide) (by omega) (by omega) (by omega)]; exact l6 k hk
      · rw [mw 41 _ (by decide) (by omega) (by omega) (by omega)]; exact t6 t r ht hr
  have hT : RT b c' m' := fun w' hw' => by
    obtain ⟨t1, t2, t3, t4⟩ := h.T w' hw'
    rw [nC 2037 (by decide), nM 45 (by decide)]
    by_cases ew : w' = w
    · subst ew
      rw [m44]
      refine ⟨?_, by omega, by omega, t4⟩
      rw [eqc 211 (by decide), a2 211 (by decide), ← hc1]
      simp [wc_at]
    · rw [m44' w' ew]
      refine ⟨?_, t2, t3, t4⟩
      rw [eqc 211 (by decide), a2 211 (by decide), ← hc1, wc_at, if_neg (by omega), wc_ne (by decide), wc_ne (by decide)]
      exact t1
  have hUr : RU c' m' := fun w' hw' => by
    obtain ⟨u1, u2, u3⟩ := h.U w' hw'
    have tw : ∀ r n, tW m' r n = tW m r n := fun r n => by
      induction n with
      | zero => rfl
      | succ n ih =>
        have ts : ∀ t k, tS m' t k = tS m t k := fun t k => by
          induction k with
          | zero => rfl
          | succ k ih => unfold tS tT; rw [ih, nM 52 (by decide), nM 53 (by decide), nM 54 (by decide), nM 55 (by decide)]
        unfold tW tR
        rw [ih, ts, nM 50 (by decide), nM 49 (by decide)]
    rw [nC 500 (by decide), nC 508 (by decide), nC 2020 (by decide), nC 2021 (by decide), nC 2022 (by decide), nC 2023 (by decide), nC 2024 (by decide), nC 2025 (by decide), nC 2026 (by decide), nM 48 (by decide), nM 49 (by decide), nM 50 (by decide), nM 52 (by decide), nM 53 (by decide), nM 54 (by decide), nM 55 (by decide), tw]
    refine ⟨u1, fun rr hrr hrr' => ?_, u3⟩
    obtain ⟨x1, x2, x3, x4⟩ := u2 rr hrr hrr'
    refine ⟨x1, x2, ?_, x4⟩
    by_cases ew : w' = w
    · subst ew
      rw [eqc 2003 (by decide), a11 rr hrr, o1 2007 (by decide), hKS.2.2.2.2.1 rr hrr hrr']
      exact (mH 51 _ _ (Or.inl (Or.inr (Or.inr (Or.inr (Or.inr ⟨rfl, by omega, by omega, by omega⟩)))))).symm
    · rw [eqc 2003 (by decide), a3 2003 w' (by decide) ew, o1 2003 (by decide), mN 51 _ (by decide) (fun p z => ?_) (fun p z => ?_)]
      · exact x3
      · rcases z with z | ⟨g', _, z2, z⟩ | z | z | z
        · omega
        · unfold SG at z; omega
        · unfold SP at z; omega
        · unfold SP at z; omega
        · unfold SP at z; omega
      · obtain ⟨_, _, _, _, _, _, z⟩ := z
        unfold SQ at z; omega
  have hS : RS b c' m' := fun w' hw' => by
    obtain ⟨s1, s2, s3, s4⟩ := h.S w' hw'
    by_cases ew : w' = w
    · subst ew
      obtain ⟨⟨y1, y2, y3, y4, _⟩, _⟩ := id hKS
      rw [eqc 300 (by decide), eqc 301 (by decide), a7, a8, o1 2007 (by decide), mH 4 w' B (Or.inl (Or.inl ⟨rfl, by omega⟩)), mH 39 w' (B + 2) (Or.inl (Or.inl ⟨rfl, by omega⟩))]
      exact ⟨y1, y2, y3, y4⟩
    · have mw : ∀ g, g = 4 ∨ g = 39 → m' g w' = m g w' := fun g hg => by
        refine mN g w' (by rcases hg with rfl | rfl <;> decide) (fun p z => ?_) (fun p z => ?_)
        · rcases z with z | ⟨g', _, z2, z⟩ | z | z | z
          · omega
          · unfold SG at z; omega
          · unfold SP at z; omega
          · unfold SP at z; omega
          · unfold SP at z; omega
        · obtain ⟨_, _, _, _, _, _, z⟩ := z
          unfold SQ at z; omega
      rw [eqc 300 (by decide), eqc 301 (by decide), a3 300 w' (by decide) ew, a3 301 w' (by decide) ew, o1 300 (by decide), o1 301 (by decide), mw 4 (Or.inl rfl), mw 39 (Or.inr rfl)]
      exact ⟨s1, s2, s3, s4⟩
  have hK : RK b c' m' := by
    intro w' hw'
    have cgKS : ∀ x' B' G', KS b c m w' x' B' G' → G' ≤ 40 → KS b c' m' w' x' B' G' := fun x' B' G' hk hg => hk.cg hg (fun t _ => by rw [nC 2007 (by decide)]) (by rw [nC 2004 (by decide)]) (by rw [nC 2004 (by decide)]) (fun t _ => by rw [nC 2006 (by decide)]) (fun t _ => by rw [nC 2006 (by decide)]) (fun g t _ _ => by rw [nC 2013 (by decide)]) (fun pl t _ _ _ => by rw [nC 2016 (by decide)]) (fun t _ => by rw [nM 83 (by decide)]) (fun g _ => by rw [nM 5 (by decide)]) (fun g _ => by rw [nM 6 (by decide)]) (by rw [nM 48 (by decide)]) (by rw [nM 123 (by decide)]; exact Int.le_refl _) (fun q _ => by rw [nM 24 (by decide), nM 28 (by decide), nM 29 (by decide)]; exact ⟨rfl, rfl, rfl⟩)
    have g40' := (h.F.1 w').2
    rw [nM 3 (by decide), nM 24 (by decide), nM 82 (by decide), nM 83 (by decide), nC 2016 (by decide)]
    by_cases ew : w' = w
    · subst ew
      have x212 : c' 212 w' 0 = (x : Int) := by rw [eqc 212 (by decide), a2 212 (by decide), ← hc1]; simp [wc_at]
      have x213 : c' 213 w' 0 = ((N - v : Nat) : Int) := by rw [eqc 213 (by decide), a2 213 (by decide), ← hc1]; simp [wc_at]
      have kx1 : ∀ j, j < N - v → kx c' w' j = kx c w' j := fun j hj => by
        rw [kx0]
        unfold kx
        rw [x212, x213, Int.toNat_natCast, Int.toNat_natCast, hx]
        exact rd2 j hj
      have ky1 : ∀ j, ky m' w' j = ky m w' j := fun j => by unfold ky; rw [nM 82 (by decide)]
      rw [x212, x213, m81]
      refine ⟨⟨rfl, by omega, by omega, by omega, by omega, k6, k7⟩, fun j hj => ?_⟩
      have hj' : j < N - v := by omega
      obtain ⟨y1, y2, y3⟩ := kS j (by omega)
      rw [kx1 j hj', ky1]
      refine ⟨cgKS _ _ _ y1 (by omega), fun q q1 q2 q3 q4 => ?_, fun i hi pl p1 p2 p3 p4 => ?_⟩
      · have hgj : m 83 (ky m w' j + 5) ≤ m 123 0 := y1.1.2.2.2.2.2.2.2.2.2.2.2.2.2
        obtain ⟨pl, p1, p2, p3⟩ := hP.2.2.2.1 w' q hw' q1 (by rw [nM 123 (by decide)]; omega) (by rw [nM 24 (by decide)]; exact q3) q4
        rw [eqc 101 (by decide), p101 pl p1 p2] at p3
        obtain ⟨pl', p4, p5, p6⟩ := hK3 j hj' pl p1 p2 (by omega) (by omega)
        exact ⟨pl', p4, p5, by rw [p6]; exact p3⟩
      · rw [kx1 i (by omega)]
        rw [ky1] at p4
        exact y3 i hi pl p1 p2 p3 p4
    · have x2 : c' 212 w' 0 = c 212 w' 0 ∧ c' 213 w' 0 = c 213 w' 0 := by
        rw [eqc 212 (by decide), a2 212 (by decide), eqc 213 (by decide), a2 213 (by decide), ← hc1]
        exact ⟨by simp [wc_at, ew], by simp [wc_at, ew]⟩
      have kx1 : ∀ j, kx c' w' j = kx c w' j := fun j => by unfold kx; rw [x2.1, x2.2]
      have ky1 : ∀ j, ky m' w' j = ky m w' j := fun j => by unfold ky; rw [nM 82 (by decide)]
      obtain ⟨z1, z2⟩ := h.K w' hw'
      rw [x2.1, x2.2, m81' w' ew]
      refine ⟨z1, fun j hj => ?_⟩
      obtain ⟨y1, y2, y3⟩ := z2 j hj
      simp only [kx1, ky1]
      refine ⟨cgKS _ _ _ y1 (by omega), fun q q1 q2 q3 q4 => ?_, y3⟩
      have hgj : m 83 (ky m w' j + 5) ≤ m 123 0 := y1.1.2.2.2.2.2.2.2.2.2.2.2.2.2
      refine y2 q q1 q2 q3 ?_
      by_cases hs : ∃ s, s < 8 * G ∧ 1 ≤ q ∧ m 83 (B + 17 + 19 * (s / 8) + s % 8) = (q : Int)
      · exfalso
        obtain ⟨s, s1, s2, s3⟩ := hs
        obtain ⟨pl, _, _, _, _, _, z⟩ := st1 s q s1 s2 s3
        have := z.1.1.2.2
        omega
      · rw [m25b q hs, if_neg (by omega)] at q4
        exact q4
  refine ⟨c2, c', mb, m', hgB, by rw [o2 5000 (by decide)]; exact e2, hU, by rw [o2 200 (by decide)], ?_, hm'.symm, ?_, ?_, nC, nM⟩
  · rw [← b1]
    congr 1
    rw [hf, hN, p_w1 (by omega) (by omega), p_rem1 (by omega) (by omega) (by omega), hy]
    omega
  · rw [b4 100 0 (by decide) (by decide) (fun p z => absurd (cH _ _ _ z) (by decide)) (fun p z => absurd (cQ _ _ _ z) (by decide)), na 100 (by decide)]
    exact e1
  · exact RR.gen lcB lmB h nC nM (Or.inl ⟨rfl, rfl⟩) (Or.inl ⟨rfl, rfl⟩) (Or.inr hGr) (Or.inr hNr) (Or.inr hP) (Or.inr hL) (Or.inr hT) (Or.inr hUr) (Or.inl ⟨rfl, rfl⟩) (Or.inl ⟨rfl, rfl⟩) (Or.inr hS) (Or.inr hK)
theorem pr_back {b : Nat} {c : h_C} {m : h_M} (h : RR b c m) (hE : c 607 0 0 = m 102 0) (v1 : Int) : PR b (G_SW_back v1 c) (G_Mo_back v1 m) := by
  obtain ⟨w, hw, e1, e2⟩ := h.w
  have w3 : (0 : Int) ≤ (w : Int) ∧ (w : Int) < 3 := by omega
  obtain ⟨⟨k1, k2, k3, _⟩, _⟩ := h.K w hw
  unfold G_SW_back G_Mo_back GB_SW_back_11
  by_cases hv : 1 ≤ v1 ∧ v1 ≤ 30
  case neg =>
    rw [s_beyond1 m hv, q_some, if_neg (show ¬ ((1 : Int) = 0) by decide), q_eta, q_eta]
    by_cases z : v1 < 1
    · rw [if_pos z]
      exact pr_refuse h _ (by omega) hE
    · rw [if_neg z, if_neg (by omega)]
      exact pr_refuse h _ (by omega) hE
  rw [s_beyond0 m hv, q_some, if_pos rfl, if_neg (by omega), if_pos hv.2, e1, e2, gd1 w3, gd1 w3, Int.toNat_natCast, k1]
  by_cases hN : v1 ≤ m 81 w
  case neg =>
    rw [if_neg hN, if_neg hN, q_eta, q_eta]
    exact pr_refuse h _ (by omega) hE
  rw [if_pos hN, if_pos hN]
  obtain ⟨v, rfl⟩ : ∃ v : Nat, v1 = (v : Int) := ⟨v1.toNat, by omega⟩
  obtain ⟨c1, c', m1, m', a1, a2, a3, a4, a5, a6, a7, a8, a9, a10⟩ := h.back hw e1 e2 (v := v) (by omega) hN
  have e100 : (wm (wm m 81 w (m 81 w - (v : Int))) 185 0 0) 100 0 = (w : Int) := by simp [wm_at, e1]
  have e82 : (wm (wm m 81 w (m 81 w - (v : Int))) 185 0 0) 82 w = m 82 w := by simp [wm_at]
  have e81 : (wm (wm m 81 w (m 81 w - (v : Int))) 185 0 0) 81 w = m 81 w - (v : Int) := by simp [wm_at]
  obtain ⟨s1, s2, s3, s4⟩ := a8.S w hw
  obtain ⟨r, c2, m2, x1, x2, x3⟩ := pr_done a8 (m' 4 w) (by rw [a9 607 (by decide), a10 102 (by decide)]; exact hE)
  refine ⟨r, c2, m2, ?_, ?_, x3⟩
  · rw [a1, q_some, a2, gd1 w3, Int.toNat_natCast, a4, h.A.2.2.2.2.2.2.2.2.2 w hw, a3, q_some, a9 5000 (by decide), e2, gd1 w3, Int.toNat_natCast, s1, q_eta]
    exact x1
  · rw [p_w1 (by omega) (by omega), bi1, bi1, e100, gd1 w3, Int.toNat_natCast, e82, e81, a5, q_some, a7, gd1 w3, Int.toNat_natCast, ← a6, bi1, a10 100 (by decide), e1, gd1 w3, Int.toNat_natCast, q_eta]
    exact x2
