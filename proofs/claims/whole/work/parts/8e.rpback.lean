/-! ===== parcels after going back ===== -/
theorem KS.st {b : Nat} {c : h_C} {m : h_M} {w x B G : Nat} (h : KS b c m w x B G) (hG : G ≤ 40) : (∀ s q : Nat, s < 8 * G → 1 ≤ q → m 83 (B + 17 + 19 * (s / 8) + s % 8) = (q : Int) → ∃ pl, 1 ≤ pl ∧ pl ≤ 30 ∧ c 2016 (31 * w + pl) (37 * x) = (q : Int) ∧ c 2016 (31 * w + pl) (37 * x + 4) = ((s / 8 : Nat) : Int) ∧ c 2016 (31 * w + pl) (37 * x + 5) = ((s % 8 : Nat) : Int) ∧ KP b c m w x B G pl q) ∧ (∀ pl g k, 1 ≤ pl → pl ≤ 30 → IS c w x pl g k → ∃ q : Nat, 1 ≤ q ∧ g < G ∧ k < 8 ∧ c 2016 (31 * w + pl) (37 * x) = (q : Int) ∧ m 83 (B + 17 + 19 * g + k) = (q : Int) ∧ (k : Int) < m 6 (40 * w + g) ∧ KP b c m w x B G pl q) := by
  obtain ⟨s1, s2, s3, s4, s5, s6, s7, s8⟩ := h
  refine ⟨fun s q hs hq e => ?_, fun pl g k p1 p2 z => ?_⟩
  · rcases (s2 (s / 8) (by omega)).2.2.2.2.2 (s % 8) (by omega) with z | ⟨pl, p1, p2, p3, p4, p5, p6⟩
    · omega
    · rcases s6 pl p1 p2 with z | ⟨q', z1, z2⟩
      · omega
      · have : q' = q := by omega
        subst this
        exact ⟨pl, p1, p2, z1, p5, p6, z2⟩
  · obtain ⟨z0, z4, z5⟩ := z
    rcases s6 pl p1 p2 with y | ⟨q, y1, y2⟩
    · exact absurd y z0
    · obtain ⟨⟨⟨u1, _⟩, _⟩, g', k', x1, x2, x3, x4, x5, x6, _⟩ := id y2
      have eg : g' = g := by omega
      have ek : k' = k := by omega
      subst eg ek
      exact ⟨q, u1, x1, x2, y1, x6, x3, y2⟩
theorem RP.back {b : Nat} {c c' : h_C} {m m' : h_M} (h : RR b c m) {w : Nat} (hw : w < 3) {x B G : Nat} (hG : m 3 w = (G : Int)) (hKS : KS b c m w x B G)
    (c100 : c' 100 = c 100) (cO : ∀ f i, f ∈ pbL → (i < 31 * w + 1 ∨ 31 * w + 30 < i) → c' f i = c f i) (cPB : ∀ pl, 1 ≤ pl → pl ≤ 30 → PB c c' (31 * w + pl) x) (cS1 : ∀ pl g k, 1 ≤ pl → pl ≤ 30 → g < 40 → k < 8 → IS c w x pl g k → c' 2012 (40 * w + g + 1) k = (pl : Int)) (cS2 : ∀ i k, k < 8 → (∀ pl g, 1 ≤ pl → pl ≤ 30 → g < 40 → i = 40 * w + g + 1 → ¬ IS c w x pl g k) → c' 2012 i k = if 40 * w + 1 ≤ i ∧ i ≤ 40 * w + G then 0 else c 2012 i k) (c302 : c' 302 w 0 = c 2007 w (16 * x + 2)) (c302' : ∀ i, i ≠ w → c' 302 i = c 302 i)
    {r : Nat → Int} (hr : r83 m w B G r) (mU : ∀ f ∈ [3, 6, 24, 28, 29, 123], m' f = m f) (mN : ∀ g j, g ∈ [22, 26, 27, 30, 31, 32, 33, 34, 35, 38] → (∀ p, ¬ SH w G B g j p) → (∀ p, ¬ SQs r w 0 (8 * G) (B + 338 + 19 * G) g j p) → m' g j = m g j) (mH : ∀ g j p, g ∈ [22, 26, 27, 30, 31, 32, 33, 34, 35, 38] → (SH w G B g j p ∨ SQs r w 0 (8 * G) (B + 338 + 19 * G) g j p) → m' g j = m 83 p) (m25a : ∀ q : Nat, (∃ s, s < 8 * G ∧ 1 ≤ q ∧ m 83 (B + 17 + 19 * (s / 8) + s % 8) = (q : Int)) → m' 25 q = 1) (m25b : ∀ q : Nat, (¬ ∃ s, s < 8 * G ∧ 1 ≤ q ∧ m 83 (B + 17 + 19 * (s / 8) + s % 8) = (q : Int)) → m' 25 q = if 1 ≤ q ∧ (q : Int) ≤ m 123 0 ∧ m 24 q = (w : Int) ∧ (m 83 (B + 5) < (q : Int) ∨ m 25 q = 1) then 0 else m 25 q) : RP b c' m' := by
  obtain ⟨p1, p2, p3, p4, p5⟩ := h.P
  have hG40 : G ≤ 40 := by have := (h.F.1 w).2.2; omega
  obtain ⟨st1, st2⟩ := hKS.st hG40
  have k3 := mU 3 (by decide)
  have k6 := mU 6 (by decide)
  have k24 := mU 24 (by decide)
  have k28 := mU 28 (by decide)
  have k29 := mU 29 (by decide)
  have k123 := mU 123 (by decide)
  have hgv : m 83 (B + 5) ≤ m 123 0 := hKS.1.2.2.2.2.2.2.2.2.2.2.2.2.2
  have hkq : ∀ t, t ≤ 8 * G → kq r w t = kpos m B t := fun t ht => by
    unfold kq kpos
    exact cnt_ext t (fun s hs => by rw [hr s (by omega)])
  have m22 : ∀ g k, g < G → k < 8 → m' 22 (8 * (40 * w + g) + k) = m 83 (B + 17 + 19 * g + k) := fun g k hg hk => mH 22 _ _ (by decide) (Or.inl (Or.inr (Or.inl ⟨g, by omega, hg, by unfold SG; omega⟩)))
  have nH : ∀ g j p, (26 ≤ g ∧ g ≤ 35) → ¬ SH w G B g j p := fun g j p hg z => by
    rcases z with z | ⟨g', _, _, z⟩ | z | z | z
    · omega
    · unfold SG at z; omega
    · have := z.1; omega
    · have := z.1; omega
    · have := z.1; omega
  -- a number of other works isn't in the kept state
  have own : ∀ q, (∃ s, s < 8 * G ∧ 1 ≤ q ∧ r (320 * w + s) = ((q : Nat) : Int)) → m 24 q = (w : Int) := fun q hq => by
    obtain ⟨s, s1, s2, s3⟩ := hq
    rw [hr s s1] at s3
    obtain ⟨pl, _, _, _, _, _, z⟩ := st1 s q s1 s2 s3
    exact z.1.1.2.2
  have oth : ∀ w' q, w' ≠ w → m 24 q = ((w' : Nat) : Int) → (∀ f, f ∈ [26, 27, 30, 31, 33, 35] → m' f q = m f q) ∧ (∀ k, k < 12 → m' 32 (12 * q + k) = m 32 (12 * q + k)) ∧ (∀ k, k < 16 → m' 34 (16 * q + k) = m 34 (16 * q + k)) ∧ m' 25 q = m 25 q := fun w' q hn e => by
    have no : ∀ s q', s < 8 * G → 1 ≤ q' → r (320 * w + s) = ((q' : Nat) : Int) → q' ≠ q := fun s q' s1 s2 s3 eq => by
      have := own q' ⟨s, s1, s2, s3⟩
      rw [eq, e] at this
      omega
    refine ⟨fun f hf => mN f q (by revert hf; revert f; decide) (fun p => nH f q p (by revert hf; revert f; decide)) (fun p z => ?_), fun k hk => mN 32 _ (by decide) (fun p => nH _ _ p (by omega)) (fun p z => ?_), fun k hk => mN 34 _ (by decide) (fun p => nH _ _ p (by omega)) (fun p z => ?_), ?_⟩
    · have hf' : f ≠ 32 ∧ f ≠ 34 := by clear z; revert hf; revert f; decide
      obtain ⟨s, q', _, s1, s2, s3, z⟩ := z
      have := no s q' s1 s2 s3
      unfold SQ at z
      omega
    · obtain ⟨s, q', _, s1, s2, s3, z⟩ := z
      have := no s q' s1 s2 s3
      unfold SQ at z
      omega
    · obtain ⟨s, q', _, s1, s2, s3, z⟩ := z
      have := no s q' s1 s2 s3
      unfold SQ at z
      omega
    · rw [m25b q (fun z => by
        obtain ⟨s, s1, s2, s3⟩ := z
        exact no s q s1 s2 (by rw [hr s s1]; exact s3) rfl), if_neg (by omega)]
  have cOf : ∀ w' pl f, w' ≠ w → w' < 3 → 1 ≤ pl → pl ≤ 30 → f ∈ pbL → c' f (31 * w' + pl) = c f (31 * w' + pl) := fun w' pl f hn hw' q1 q2 hf => cO f _ hf (by omega)
  have c12 : ∀ w' g k, w' ≠ w → w' < 3 → g < 40 → k < 8 → c' 2012 (40 * w' + g + 1) k = c 2012 (40 * w' + g + 1) k := fun w' g k hn hw' hg hk => by
    rw [cS2 _ _ hk (fun pl g' _ _ h3 h4 => by omega), if_neg (by omega)]
  refine ⟨fun w' pl hw' q1 q2 => by rw [c100]; exact p1 w' pl hw' q1 q2, fun w' g k hw' hg hk => ?_, fun w' pl hw' q1 q2 => ?_, fun w' q hw' q1 q2 q3 q4 => ?_, fun w' hw' => ?_⟩
  · unfold SL
    rw [k3, k6]
    by_cases ew : w' = w
    · subst ew
      by_cases hgG : g < G
      · rw [m22 g k hgG hk]
        rcases (hKS.2.1 g hgG).2.2.2.2.2 k hk with z | ⟨pl, z1, z2, z3, z4, z5, z6⟩
        · refine Or.inl ⟨?_, z⟩
          rw [cS2 _ _ hk (fun pl g' y1 y2 y3 y4 y5 => by
            have : g' = g := by omega
            subst this
            obtain ⟨q, u1, u2, u3, u4, u5, _⟩ := st2 pl g' k y1 y2 y5
            omega), if_pos (by omega)]
        · have hi : IS c w' x pl g k := ⟨by omega, z5, z6⟩
          obtain ⟨q, u1, u2, u3, u4, u5, u6, _⟩ := st2 pl g k z1 z2 hi
          have pb := cPB pl z1 z2
          have pf := (pb.2 (by omega)).1
          have f4 : c' 105 (31 * w' + pl) 0 = (g : Int) := (pf 4 (by omega)).trans z5
          have f5 : c' 106 (31 * w' + pl) 0 = (k : Int) := (pf 5 (by omega)).trans z6
          refine Or.inr ⟨pl, z1, z2, cS1 pl g k z1 z2 hg hk hi, by rw [pb.1]; exact z3, by rw [pb.1]; exact z4, f4, f5, by omega, u6⟩
      · have old := p2 w' g k hw' hg hk
        unfold SL at old
        have old' : c 2012 (40 * w' + g + 1) k = 0 ∧ m 22 (8 * (40 * w' + g) + k) = 0 := by
          rcases old with z | ⟨_, _, _, _, _, _, _, _, z, _⟩
          · exact z
          · omega
        refine Or.inl ⟨?_, ?_⟩
        · rw [cS2 _ _ hk (fun pl g' y1 y2 y3 y4 y5 => by
            have : g' = g := by omega
            subst this
            obtain ⟨q, u1, u2, _⟩ := st2 pl g' k y1 y2 y5
            omega), if_neg (by omega)]
          exact old'.1
        · rw [mN 22 _ (by decide) (fun p z => ?_) (fun p z => ?_)]
          · exact old'.2
          · rcases z with z | ⟨g', _, z2, z⟩ | z | z | z
            · omega
            · unfold SG at z; omega
            · have := z.1; omega
            · have := z.1; omega
            · have := z.1; omega
          · obtain ⟨_, _, _, _, _, _, z⟩ := z
            unfold SQ at z; omega
    · have old := p2 w' g k hw' hg hk
      unfold SL at old
      rw [c12 w' g k ew hw' hg hk, mN 22 _ (by decide) (fun p z => ?_) (fun p z => ?_)]
      · rcases old with z | ⟨pl, z1, z2, z3, z4, z5, z6, z7, z8, z9⟩
        · exact Or.inl z
        · refine Or.inr ⟨pl, z1, z2, z3, ?_⟩
          rw [cOf w' pl 101 ew hw' z1 z2 (by decide), cOf w' pl 105 ew hw' z1 z2 (by decide), cOf w' pl 106 ew hw' z1 z2 (by decide)]
          exact ⟨z4, z5, z6, z7, z8, z9⟩
      · rcases z with z | ⟨g', _, z2, z⟩ | z | z | z
        · omega
        · unfold SG at z; omega
        · have := z.1; omega
        · have := z.1; omega
        · have := z.1; omega
      · obtain ⟨_, _, _, _, _, _, z⟩ := z
        unfold SQ at z; omega
  · by_cases ew : w' = w
    · subst ew
      have pb := cPB pl q1 q2
      rw [pb.1]
      by_cases h0 : c 2016 (31 * w' + pl) (37 * x) = 0
      · exact Or.inl h0
      rcases hKS.2.2.2.2.2.1 pl q1 q2 with z | ⟨q, z1, z2⟩
      · exact absurd z h0
      obtain ⟨⟨⟨u1, u2, u3⟩, u4, u5, u6, u7, u8, u9⟩, g, k, x1, x2, x3, x4, x5, x6, D, d0, d1, d2, d3, d4, d5, d6, d7, d8, d9, d10, d11, d12, d13, d14⟩ := id z2
      obtain ⟨pf, pf2, pf3⟩ := pb.2 h0
      have hi : IS c w' x pl g k := ⟨h0, x4, x5⟩
      have es : m 83 (B + 17 + 19 * ((8 * g + k) / 8) + (8 * g + k) % 8) = (q : Int) := by
        rw [show (8 * g + k) / 8 = g by omega, show (8 * g + k) % 8 = k by omega]; exact x6
      have mq : ∀ f j p, f ∈ [22, 26, 27, 30, 31, 32, 33, 34, 35, 38] → SQ q D f j p → m' f j = m 83 p := fun f j p hf z => mH f j p hf (Or.inr ⟨8 * g + k, q, by omega, by omega, u1, by rw [hr _ (by omega)]; exact es, by rw [hkq _ (by omega), ← d0]; exact z⟩)
      refine Or.inr ⟨q, z1, ?_⟩
      have f1 : c' 102 (31 * w' + pl) 0 = _ := pf 1 (by omega)
      have f2 : c' 103 (31 * w' + pl) 0 = _ := pf 2 (by omega)
      have f3 : c' 104 (31 * w' + pl) 0 = _ := pf 3 (by omega)
      have f4 : c' 105 (31 * w' + pl) 0 = _ := pf 4 (by omega)
      have f5 : c' 106 (31 * w' + pl) 0 = _ := pf 5 (by omega)
      have f6 : c' 107 (31 * w' + pl) 0 = _ := pf 6 (by omega)
      have f7 : c' 109 (31 * w' + pl) 0 = _ := pf 7 (by omega)
      have f8 : c' 111 (31 * w' + pl) 0 = _ := pf 8 (by omega)
      unfold PO
      rw [k3, k6, k24, k28, k29, k123, f1, f2, f3, f4, f5, f6, f7, f8, m25a q ⟨8 * g + k, by omega, u1, es⟩, mq 26 q D (by decide) (by unfold SQ; omega), mq 27 q (D + 1) (by decide) (by unfold SQ; omega), mq 30 q (D + 2) (by decide) (by unfold SQ; omega), mq 31 q (D + 3) (by decide) (by unfold SQ; omega), mq 33 q (D + 4) (by decide) (by unfold SQ; omega), mq 35 q (D + 5) (by decide) (by unfold SQ; omega)]
      refine ⟨⟨⟨u1, by omega, u3, rfl⟩, g, k, by omega, x2, x4, x5, by omega, x3, cS1 pl g k q1 q2 (by omega) x2 hi, d1, d2⟩, ⟨u4, u5, u6⟩, ⟨u7, u8, u9⟩, ⟨d3, d4⟩, ⟨d11, d12⟩, ⟨d8, d9, d10, fun k hk hk' => ?_⟩, ⟨d5, d6, d7, fun k hk hk' => ?_⟩⟩
      · rw [mq 34 (16 * q + k) (D + 18 + k) (by decide) (by unfold SQ; omega), pf2 k hk]
        exact d14 k hk hk'
      · rw [mq 32 (12 * q + k) (D + 6 + k) (by decide) (by unfold SQ; omega), pf3 k hk]
        exact d13 k hk hk'
    · rw [cOf w' pl 101 ew hw' q1 q2 (by decide)]
      rcases p3 w' pl hw' q1 q2 with z | ⟨q, z1, z2⟩
      · exact Or.inl z
      · refine Or.inr ⟨q, z1, ?_⟩
        obtain ⟨⟨⟨a1, a2, a3, a4⟩, g, k, g40, k8, x1, x2, x3, x4, x5, x6, x7⟩, b1, b2, b3, b4, ⟨b5, b6, b7, b8⟩, ⟨b9, b10, b11, b12⟩⟩ := z2
        obtain ⟨o1, o2, o3, o4⟩ := oth w' q ew a3
        unfold PO
        rw [k3, k6, k24, k28, k29, k123, cOf w' pl 102 ew hw' q1 q2 (by decide), cOf w' pl 103 ew hw' q1 q2 (by decide), cOf w' pl 104 ew hw' q1 q2 (by decide), cOf w' pl 105 ew hw' q1 q2 (by decide), cOf w' pl 106 ew hw' q1 q2 (by decide), cOf w' pl 107 ew hw' q1 q2 (by decide), cOf w' pl 109 ew hw' q1 q2 (by decide), cOf w' pl 111 ew hw' q1 q2 (by decide), cOf w' pl 2014 ew hw' q1 q2 (by decide), cOf w' pl 2015 ew hw' q1 q2 (by decide), o4, o1 26 (by decide), o1 27 (by decide), o1 30 (by decide), o1 31 (by decide), o1 33 (by decide), o1 35 (by decide)]
        refine ⟨⟨⟨a1, a2, a3, a4⟩, g, k, g40, k8, x1, x2, x3, x4, by rw [c12 w' g k ew hw' g40 k8]; exact x5, x6, x7⟩, b1, b2, b3, b4, ⟨b5, b6, b7, fun k hk hk' => by rw [o3 k hk]; exact b8 k hk hk'⟩, ⟨b9, b10, b11, fun k hk hk' => by rw [o2 k hk]; exact b12 k hk hk'⟩⟩
  · rw [k24] at q3
    rw [k123] at q2
    by_cases ew : w' = w
    · subst ew
      by_cases hs : ∃ s, s < 8 * G ∧ 1 ≤ q ∧ m 83 (B + 17 + 19 * (s / 8) + s % 8) = (q : Int)
      · obtain ⟨s, s1, s2, s3⟩ := hs
        obtain ⟨pl, z1, z2, z3, _⟩ := st1 s q s1 s2 s3
        exact ⟨pl, z1, z2, by rw [(cPB pl z1 z2).1]; exact z3⟩
      · rw [m25b q hs] at q4
        by_cases hc : 1 ≤ q ∧ (q : Int) ≤ m 123 0 ∧ m 24 q = (w' : Int) ∧ (m 83 (B + 5) < (q : Int) ∨ m 25 q = 1)
        · rw [if_pos hc] at q4; omega
        · rw [if_neg hc] at q4
          exact absurd ⟨q1, q2, q3, Or.inr q4⟩ hc
    · rw [(oth w' q ew q3).2.2.2] at q4
      obtain ⟨pl, z1, z2, z3⟩ := p4 w' q hw' q1 q2 q3 q4
      exact ⟨pl, z1, z2, by rw [cOf w' pl 101 ew hw' z1 z2 (by decide)]; exact z3⟩
  · by_cases ew : w' = w
    · subst ew
      rw [c302, mH 38 w' (B + 1) (by decide) (Or.inl (Or.inl ⟨rfl, by omega⟩))]
      refine ⟨hKS.1.2.2.2.2.1, ?_⟩
      rw [hKS.2.2.2.2.2.2.1]
      congr 1
      exact cnt_ext 30 (fun k hk => by rw [show 31 * w' + k + 1 = 31 * w' + (k + 1) by omega, (cPB (k + 1) (by omega) (by omega)).1])
    · rw [c302' w' ew, mN 38 w' (by decide) (fun p z => ?_) (fun p z => ?_)]
      · obtain ⟨a1, a2⟩ := p5 w' hw'
        refine ⟨a1, a2.trans ?_⟩
        congr 1
        exact cnt_ext 30 (fun k hk => by rw [show 31 * w' + k + 1 = 31 * w' + (k + 1) by omega, cOf w' (k + 1) 101 ew hw' (by omega) (by omega) (by decide)])
      · rcases z with z | ⟨g', _, z2, z⟩ | z | z | z
        · omega
        · unfold SG at z; omega
        · have := z.1; omega
        · have := z.1; omega
        · have := z.1; omega
      · obtain ⟨_, _, _, _, _, _, z⟩ := z
        unfold SQ at z; omega
