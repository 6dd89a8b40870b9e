/-! ===== the class goes back: all of it ===== -/
/-- ring place x has a parcel at place pl, in slot (g, k) -/
def IS (c : h_C) (w x pl g k : Nat) : Prop := c 2016 (31 * w + pl) (37 * x) ≠ 0 ∧ c 2016 (31 * w + pl) (37 * x + 4) = (g : Int) ∧ c 2016 (31 * w + pl) (37 * x + 5) = (k : Int)
def qbL : List Nat := [101, 102, 103, 104, 105, 106, 107, 109, 111, 2014, 2015, 2012]
theorem s_pbacks {w x : Nat} (hw : w < 3) (hx : x < 30) {cO : h_C} (h6 : ∀ pl, 1 ≤ pl → pl ≤ 30 → cO 2016 (31 * w + pl) (37 * x) ≠ 0 → (cO 2016 (31 * w + pl) (37 * x + 6) = 0 ∨ cO 2016 (31 * w + pl) (37 * x + 6) = 1) ∧ ∃ g k, g < 40 ∧ k < 8 ∧ IS cO w x pl g k) (hd : ∀ pl pl' g k, 1 ≤ pl → pl ≤ 30 → 1 ≤ pl' → pl' ≤ 30 → IS cO w x pl g k → IS cO w x pl' g k → pl' = pl) : ∀ (d pl fu : Nat) (c : h_C), pl + d = 31 → 1 ≤ pl → d < fu → c 2016 = cO 2016 → ∃ c', GO_State_goBack_97 fu w (x : Int) (pl : Int) c = GL_State_goBack_97 (fun _ _ _ _ => none) w (x : Int) 31 c' ∧ eC qbL c c' ∧ (∀ f i, f ≠ 2012 → (i < 31 * w + pl ∨ 31 * w + 30 < i) → c' f i = c f i) ∧ (∀ p', pl ≤ p' → p' ≤ 30 → PB cO c' (31 * w + p') x) ∧ (∀ p' g k, pl ≤ p' → p' ≤ 30 → g < 40 → k < 8 → IS cO w x p' g k → c' 2012 (40 * w + g + 1) k = (p' : Int)) ∧ (∀ i k, (∀ p' g, pl ≤ p' → p' ≤ 30 → g < 40 → i = 40 * w + g + 1 → ¬ IS cO w x p' g k) → c' 2012 i k = c 2012 i k) := by
  intro d
  induction d with
  | zero =>
    intro pl fu c hd h1 hf e16
    obtain ⟨fu, rfl⟩ : ∃ g, fu = g + 1 := ⟨fu - 1, by omega⟩
    have ep : pl = 31 := by omega
    subst ep
    refine ⟨c, ?_, eC.rf _ _, fun _ _ _ _ => rfl, fun p' z1 z2 => by omega, fun p' g k z1 z2 => by omega, fun _ _ _ => rfl⟩
    show GL_State_goBack_97 _ _ _ _ c = _
    unfold GL_State_goBack_97
    rw [if_pos (by omega), if_pos (by omega)]
  | succ d ih =>
    intro pl fu c hdd h1 hf e16
    obtain ⟨fu, rfl⟩ : ∃ g, fu = g + 1 := ⟨fu - 1, by omega⟩
    have hv : vP (31 * w + pl) := ⟨by omega, by omega⟩
    have nC : ∀ c2 : h_C, GB_State_goBack_148 (GO_State_goBack_97 fu) w (x : Int) (pl : Int) c2 = GO_State_goBack_97 fu w (x : Int) ((pl + 1 : Nat) : Int) c2 := fun c2 => by
      unfold GB_State_goBack_148
      rw [p_w1 (by omega) (by omega), bi1]
      rfl
    obtain ⟨c1, a1, a2, a3, a4⟩ := s_pback hv hx c (fun h => by rw [e16] at h ⊢; exact (h6 pl h1 (by omega) h).1)
    have a4' : PB cO c1 (31 * w + pl) x := by
      unfold PB at a4 ⊢
      rw [e16] at a4
      exact a4
    have e16' : c1 2016 = cO 2016 := by rw [a2 2016 (by decide)]; exact e16
    have hStep : ∀ X, (if (c1 101 (31 * w + pl) 0) = 0 then GO_State_goBack_97 fu w (x : Int) ((pl + 1 : Nat) : Int) c1 else
      p_gd ((0 : Int) ≤ (c1 105 (31 * w + pl) 0) ∧ (c1 105 (31 * w + pl) 0) < (40 : Int)) <|
      p_gd ((0 : Int) ≤ (c1 106 (31 * w + pl) 0) ∧ (c1 106 (31 * w + pl) 0) < (8 : Int)) <|
      GO_State_goBack_97 fu w (x : Int) ((pl + 1 : Nat) : Int) (wc c1 2012 (40 * w + ((c1 105 (31 * w + pl) 0) : Int).toNat + 1) ((c1 106 (31 * w + pl) 0) : Int).toNat (pl : Int))) = X → GO_State_goBack_97 (fu + 1) w (x : Int) (pl : Int) c = X := fun X hX => by
      show GL_State_goBack_97 _ _ _ _ c = _
      unfold GL_State_goBack_97
      rw [if_neg (by omega), gd1 hw, gd1 (by omega), gd1 (by omega), Int.toNat_natCast, a1, q_some]
      simp only [bi1, nC]
      exact hX
    -- PB is kept by what comes after
    have kPB : ∀ c' : h_C, (∀ f i, f ≠ 2012 → (i < 31 * w + (pl + 1) ∨ 31 * w + 30 < i) → c' f i = c1 f i) → PB cO c' (31 * w + pl) x := fun c' hc' => by
      have e : ∀ f, f ≠ 2012 → c' f (31 * w + pl) = c1 f (31 * w + pl) := fun f hf => hc' f _ hf (by omega)
      unfold PB pfl at a4' ⊢
      rw [e 101 (by decide), e 102 (by decide), e 103 (by decide), e 104 (by decide), e 105 (by decide), e 106 (by decide), e 107 (by decide), e 109 (by decide), e 111 (by decide), e 2014 (by decide), e 2015 (by decide)]
      exact a4'
    by_cases h0 : cO 2016 (31 * w + pl) (37 * x) = 0
    · obtain ⟨c', y1, y2, y3, y4, y5, y6⟩ := ih (pl + 1) fu c1 (by omega) (by omega) (by omega) e16'
      refine ⟨c', hStep _ ?_, (a2.up (by decide)).tr y2, fun f i hf h => ?_, fun p' z1 z2 => ?_, fun p' g k z1 z2 z3 z4 z5 => ?_, fun i k h => ?_⟩
      · rw [if_pos (by rw [a4'.1]; exact h0)]
        exact y1
      · rw [y3 f i hf (by omega), a3 f i (by omega)]
      · by_cases e : p' = pl
        · subst e
          exact kPB c' y3
        · exact y4 p' (by omega) z2
      · by_cases e : p' = pl
        · subst e
          exact absurd h0 z5.1
        · exact y5 p' g k (by omega) z2 z3 z4 z5
      · rw [y6 i k (fun p' g z1 z2 z3 z4 => h p' g (by omega) z2 z3 z4), a2 2012 (by decide)]
    · obtain ⟨_, g, k, hg, hk, hi⟩ := h6 pl h1 (by omega) h0
      have f5 : c1 105 (31 * w + pl) 0 = (g : Int) := by
        have := (a4'.2 h0).1 4 (by omega)
        rw [show (pfl c1 (31 * w + pl)).getD 4 0 = c1 105 (31 * w + pl) 0 from rfl] at this
        rw [this]; exact hi.2.1
      have f6 : c1 106 (31 * w + pl) 0 = (k : Int) := by
        have := (a4'.2 h0).1 5 (by omega)
        rw [show (pfl c1 (31 * w + pl)).getD 5 0 = c1 106 (31 * w + pl) 0 from rfl] at this
        rw [this]; exact hi.2.2
      obtain ⟨c', y1, y2, y3, y4, y5, y6⟩ := ih (pl + 1) fu (wc c1 2012 (40 * w + g + 1) k (pl : Int)) (by omega) (by omega) (by omega) (by rw [← e16']; funext i l; rw [wc_ne (by decide)])
      have n1 : ∀ f i, f ≠ 2012 → wc c1 2012 (40 * w + g + 1) k (pl : Int) f i = c1 f i := fun f i hf => by funext l; rw [wc_ne hf]
      refine ⟨c', hStep _ ?_, ((a2.up (by decide)).tr (eC.up (l := [2012]) (by repeat first | exact eC.rf _ _ | refine eC.wc ?_ (by decide) _ _ _ | refine eC.sr ?_ (by decide) _ _) (by decide))).tr y2, fun f i hf h => ?_, fun p' z1 z2 => ?_, fun p' g' k' z1 z2 z3 z4 z5 => ?_, fun i k' h => ?_⟩
      · rw [if_neg (by rw [a4'.1]; exact h0), f5, f6, gd1 (by omega), gd1 (by omega), Int.toNat_natCast, Int.toNat_natCast]
        exact y1
      · rw [y3 f i hf (by omega), n1 f i hf, a3 f i (by omega)]
      · by_cases e : p' = pl
        · subst e
          exact kPB c' (fun f i hf h => by rw [y3 f i hf h, n1 f i hf])
        · exact y4 p' (by omega) z2
      · by_cases e : p' = pl
        · subst e
          have eg : g' = g := by have := z5.2.1; have := hi.2.1; omega
          have ek : k' = k := by have := z5.2.2; have := hi.2.2; omega
          subst eg ek
          rw [y6 _ _ (fun p'' g'' w1 w2 w3 w4 w5 => by
            have : g'' = g' := by omega
            subst this
            have := hd p' p'' g'' k' h1 z2 (by omega) w2 z5 w5
            omega)]
          simp [wc_at]
        · exact y5 p' g' k' (by omega) z2 z3 z4 z5
      · rw [y6 i k' (fun p' g' z1 z2 z3 z4 => h p' g' (by omega) z2 z3 z4), wc_at, if_neg (fun z => h pl g (by omega) (by omega) hg z.2.1 (by rw [z.2.2]; exact hi)), a2 2012 (by decide)]
theorem s_lback {j : Nat} (hj : vL j) {x : Nat} (hx : x < 30) (c : h_C) {n : Nat} (hn : n = if j % 2 = 0 then 200 else 150) : G_Log_goBack j (x : Int) c = some (sr (wc c 403 j 0 (c 2004 j x)) 2005 j (cp (c 2006 j) (n * x) (c 2005 j) 0 n)) := by
  unfold G_Log_goBack
  have hn' : n = 200 ∨ n = 150 := by rw [hn]; split <;> omega
  have hN : ((if j % 2 = 0 then 6000 else 4500 : Nat) : Int) = ((30 * n : Nat) : Int) := by rw [hn]; split <;> rfl
  have e : (x : Int) * (n : Int) = ((n * x : Nat) : Int) := by rw [Int.natCast_mul, Int.mul_comm]
  have hm : n * x ≤ n * 29 := Nat.mul_le_mul_left n (by omega)
  rw [gd1 hj, gd1 (by omega), Int.toNat_natCast, bi1, ← hn, hN, e, p_w1 (by omega) (by omega), gd1 (by omega), Int.toNat_natCast, Int.toNat_natCast]
  have r1 : (wc c 403 j 0 (c 2004 j x)) 2005 j = c 2005 j := by funext k; exact wc_ne (by decide) _ _
  have r2 : (wc c 403 j 0 (c 2004 j x)) 2006 j = c 2006 j := by funext k; exact wc_ne (by decide) _ _
  rw [r1, r2]
  rfl
def sbL : List Nat := [300, 301, 302, 303, 2003, 6, 7, 8, 9, 10, 11, 12, 13, 14, 15, 16, 2012, 101, 102, 103, 104, 105, 106, 107, 109, 111, 2014, 2015, 403, 2005]
theorem s_stBack {w x : Nat} (hw : w < 3) (hx : x < 30) {G : Nat} (hG : G ≤ 40) (c : h_C) (h7 : ∀ g, g < G → c 2013 (40 * w + g + 1) (11 * x + 1) = 0 ∨ c 2013 (40 * w + g + 1) (11 * x + 1) = 1) (h6 : ∀ pl, 1 ≤ pl → pl ≤ 30 → c 2016 (31 * w + pl) (37 * x) ≠ 0 → (c 2016 (31 * w + pl) (37 * x + 6) = 0 ∨ c 2016 (31 * w + pl) (37 * x + 6) = 1) ∧ ∃ g k, g < 40 ∧ k < 8 ∧ IS c w x pl g k) (hd : ∀ pl pl' g k, 1 ≤ pl → pl ≤ 30 → 1 ≤ pl' → pl' ≤ 30 → IS c w x pl g k → IS c w x pl' g k → pl' = pl) : ∃ c', G_State_goBack w (x : Int) (G : Int) c = some c' ∧ eC sbL c c' ∧
    ((∀ f i, f ∈ [300, 301, 302, 303, 2003] → i ≠ w → c' f i = c f i) ∧ (∀ f i, f ∈ [6, 7, 8, 9, 10, 11, 12, 13, 14, 15, 16] → (i ≤ 40 * w ∨ 40 * w + G < i) → c' f i = c f i) ∧ (∀ f i, f ∈ pbL → (i < 31 * w + 1 ∨ 31 * w + 30 < i) → c' f i = c f i) ∧ (∀ f i, f ∈ [403, 2005] → (i ≠ 2 * w ∧ i ≠ 2 * w + 1) → c' f i = c f i)) ∧
    (c' 300 w 0 = c 2007 w (16 * x) ∧ c' 301 w 0 = c 2007 w (16 * x + 1) ∧ c' 302 w 0 = c 2007 w (16 * x + 2) ∧ c' 303 w 0 = c 2007 w (16 * x + 3) ∧ ∀ r, r < 12 → c' 2003 w r = c 2007 w (16 * x + 4 + r)) ∧ (∀ g t, g < G → t < 11 → (gfl c' (40 * w + g + 1)).getD t 0 = c 2013 (40 * w + g + 1) (11 * x + t)) ∧ (∀ pl, 1 ≤ pl → pl ≤ 30 → PB c c' (31 * w + pl) x) ∧ (∀ pl g k, 1 ≤ pl → pl ≤ 30 → g < 40 → k < 8 → IS c w x pl g k → c' 2012 (40 * w + g + 1) k = (pl : Int)) ∧ (∀ i k, k < 8 → (∀ pl g, 1 ≤ pl → pl ≤ 30 → g < 40 → i = 40 * w + g + 1 → ¬ IS c w x pl g k) → c' 2012 i k = if 40 * w + 1 ≤ i ∧ i ≤ 40 * w + G then 0 else c 2012 i k) ∧ (c' 403 (2 * w) 0 = c 2004 (2 * w) x ∧ c' 403 (2 * w + 1) 0 = c 2004 (2 * w + 1) x) ∧ (∀ k, k < 200 → c' 2005 (2 * w) k = c 2006 (2 * w) (200 * x + k)) ∧ (∀ k, k < 150 → c' 2005 (2 * w + 1) k = c 2006 (2 * w + 1) (150 * x + k)) := by
  have e0 : p_w (16 * (x : Int)) = ((16 * x : Nat) : Int) := by rw [p_w1 (by omega) (by omega)]; omega
  have ek : ∀ t : Nat, t < 16 → p_w (((16 * x : Nat) : Int) + (t : Int)) = ((16 * x + t : Nat) : Int) := fun t ht => by rw [p_w1 (by omega) (by omega)]; omega
  have e1 := ek 1 (by omega)
  have e2 := ek 2 (by omega)
  have e3 := ek 3 (by omega)
  have e4 := ek 4 (by omega)
  generalize hcc : wc (wc (wc (wc c 300 w 0 (c 2007 w (16 * x))) 301 w 0 (c 2007 w (16 * x + 1))) 302 w 0 (c 2007 w (16 * x + 2))) 303 w 0 (c 2007 w (16 * x + 3)) = cc
  have nn : eC [300, 301, 302, 303] c cc := by rw [← hcc]; exact (by repeat first | exact eC.rf _ _ | refine eC.wc ?_ (by decide) _ _ _ | refine eC.sr ?_ (by decide) _ _)
  generalize hc1 : sr cc 2003 w (cp (c 2007 w) (16 * x + 4) (c 2003 w) 0 12) = c1
  have n1 : eC [300, 301, 302, 303, 2003] c c1 := by rw [← hc1]; exact (nn.up (by decide)).tr (eC.up (l := [2003]) (by repeat first | exact eC.rf _ _ | refine eC.wc ?_ (by decide) _ _ _ | refine eC.sr ?_ (by decide) _ _) (by decide))
  obtain ⟨c2, a1, a2, a3, a4, a5⟩ := s_gbacks hw hx hG G 0 3000 c1 (by omega) (by omega) (fun g _ hg => by rw [n1 2013 (by decide)]; exact h7 g hg)
  obtain ⟨c3, b1, b2, b3, b4, b5, b6⟩ := s_pbacks hw hx (cO := c) h6 hd 30 1 3000 c2 (by omega) (by omega) (by omega) (by rw [a2 2016 (by decide), n1 2016 (by decide)])
  have d1 := s_lback (j := 2 * w) (by show 2 * w < 6; omega) hx c3 (n := 200) (by rw [if_pos (by omega)])
  have x3 : eC ([300, 301, 302, 303, 2003] ++ gbL ++ qbL) c c3 := ((n1.up (by decide)).tr (a2.up (by decide))).tr (b2.up (by decide))
  generalize hc4 : sr (wc c3 403 (2 * w) 0 (c3 2004 (2 * w) x)) 2005 (2 * w) (cp (c3 2006 (2 * w)) (200 * x) (c3 2005 (2 * w)) 0 200) = c4 at d1
  have n4 : eC [403, 2005] c3 c4 := by rw [← hc4]; exact (by repeat first | exact eC.rf _ _ | refine eC.wc ?_ (by decide) _ _ _ | refine eC.sr ?_ (by decide) _ _)
  have d2 := s_lback (j := 2 * w + 1) (by show 2 * w + 1 < 6; omega) hx c4 (n := 150) (by rw [if_neg (by omega)])
  generalize hc5 : sr (wc c4 403 (2 * w + 1) 0 (c4 2004 (2 * w + 1) x)) 2005 (2 * w + 1) (cp (c4 2006 (2 * w + 1)) (150 * x) (c4 2005 (2 * w + 1)) 0 150) = c5 at d2
  have n5 : eC [403, 2005] c4 c5 := by rw [← hc5]; exact (by repeat first | exact eC.rf _ _ | refine eC.wc ?_ (by decide) _ _ _ | refine eC.sr ?_ (by decide) _ _)
  have n35 : eC [403, 2005] c3 c5 := n4.tr n5
  have n23 : ∀ f, f ∈ [300, 301, 302, 303, 2003] → c5 f = c1 f := fun f hf => by
    rw [n35 f (by revert hf; revert f; decide), b2 f (by revert hf; revert f; decide), a2 f (by revert hf; revert f; decide)]
  have nG : ∀ f, f ∈ [6, 7, 8, 9, 10, 11, 12, 13, 14, 15, 16] → c5 f = c2 f := fun f hf => by
    rw [n35 f (by revert hf; revert f; decide), b2 f (by revert hf; revert f; decide)]
  have nP : ∀ f, f ∈ pbL → c5 f = c3 f ∧ c2 f = c f := fun f hf => ⟨n35 f (by revert hf; revert f; decide), by rw [a2 f (by revert hf; revert f; decide), n1 f (by revert hf; revert f; decide)]⟩
  refine ⟨c5, ?_, (x3.up (by decide)).tr (n35.up (by decide)), ⟨fun f i hf hi => ?_, fun f i hf hi => ?_, fun f i hf hi => ?_, fun f i hf hi => ?_⟩, ⟨?_, ?_, ?_, ?_, fun r hr => ?_⟩, fun g t hg ht => ?_, fun pl p1 p2 => ?_, fun pl g k p1 p2 hg hk z => ?_, fun i k hk8 h => ?_, ⟨?_, ?_⟩, fun k hk => ?_, fun k hk => ?_⟩
  · unfold G_State_goBack
    rw [e0, bi1, gd1 hw, gd1 (by omega), Int.toNat_natCast, show (2 : Int) = ((2 : Nat) : Int) from rfl, show (3 : Int) = ((3 : Nat) : Int) from rfl, show (4 : Int) = ((4 : Nat) : Int) from rfl, show p_w (((16 * x : Nat) : Int) + 1) = ((16 * x + 1 : Nat) : Int) from e1, e2, e3, e4]
    simp (discharger := omega) only [gd1, bi1, Int.toNat_natCast, wc_ne]
    rw [hcc]
    have r1 : cc 2007 w = c 2007 w := by rw [nn 2007 (by decide)]
    have r2 : cc 2003 w = c 2003 w := by rw [nn 2003 (by decide)]
    rw [r1, r2]
    show GO_State_goBack_71 3000 w (x : Int) (G : Int) 0 (sr cc 2003 w (cp (c 2007 w) (16 * x + 4) (c 2003 w) 0 12)) = _
    rw [hc1]
    have a1' : GO_State_goBack_71 3000 w (x : Int) (G : Int) 0 c1 = GO_State_goBack_97 3000 w (x : Int) 1 c2 := a1
    have b1' : GO_State_goBack_97 3000 w (x : Int) 1 c2 = GL_State_goBack_97 (fun _ _ _ _ => none) w (x : Int) 31 c3 := b1
    rw [a1', b1']
    unfold GL_State_goBack_97
    rw [if_pos (by decide), gd1 hw, d1, q_some, d2, q_some]
  · rw [n23 f hf, ← hc1]
    funext k
    rw [sr_at, if_neg (fun z => hi z.2), ← hcc]
    simp [wc_at, hi]
  · rw [nG f hf, a3 f i (by omega), n1 f (by revert hf; revert f; decide)]
  · rw [(nP f hf).1, b3 f i (by revert hf; revert f; decide) hi, (nP f hf).2]
  · have hx3 : c3 f = c f := x3 f (by revert hf; revert f; decide)
    funext k
    rw [← hc5, sr_at, if_neg (by omega), wc_at, if_neg (by omega), ← hc4, sr_at, if_neg (by omega), wc_at, if_neg (by omega), hx3]
  · rw [n23 300 (by decide), ← hc1, sr_ne (by decide), ← hcc]; simp [wc_at]
  · rw [n23 301 (by decide), ← hc1, sr_ne (by decide), ← hcc]; simp [wc_at]
  · rw [n23 302 (by decide), ← hc1, sr_ne (by decide), ← hcc]; simp [wc_at]
  · rw [n23 303 (by decide), ← hc1, sr_ne (by decide), ← hcc]; simp [wc_at]
  · rw [n23 2003 (by decide), ← hc1, sr_at, if_pos ⟨rfl, rfl⟩, cp_at, if_pos (by omega), Nat.sub_zero]
  · have := a4 g t (by omega) hg ht
    rw [n1 2013 (by decide)] at this
    rw [← this]
    unfold gfl
    rw [nG 6 (by decide), nG 7 (by decide), nG 8 (by decide), nG 9 (by decide), nG 10 (by decide), nG 11 (by decide), nG 12 (by decide), nG 13 (by decide), nG 14 (by decide), nG 15 (by decide), nG 16 (by decide)]
  · have := b4 pl p1 p2
    unfold PB pfl at this ⊢
    rw [(nP 101 (by decide)).1, (nP 102 (by decide)).1, (nP 103 (by decide)).1, (nP 104 (by decide)).1, (nP 105 (by decide)).1, (nP 106 (by decide)).1, (nP 107 (by decide)).1, (nP 109 (by decide)).1, (nP 111 (by decide)).1, (nP 2014 (by decide)).1, (nP 2015 (by decide)).1]
    exact this
  · rw [n35 2012 (by decide)]
    exact b5 pl g k p1 p2 hg hk z
  · rw [n35 2012 (by decide), b6 i k h]
    by_cases hc : 40 * w + 1 ≤ i ∧ i ≤ 40 * w + G
    · rw [if_pos hc]
      have := a5 (i - (40 * w + 1)) k (by omega) (by omega) hk8
      rwa [show 40 * w + (i - (40 * w + 1)) + 1 = i by omega] at this
    · rw [if_neg hc, a3 2012 i (by omega), n1 2012 (by decide)]
  · rw [← hc5, sr_ne (by decide), wc_at, if_neg (by omega), ← hc4, sr_ne (by decide), wc_at, if_pos ⟨rfl, rfl, rfl⟩, x3 2004 (by decide)]
  · rw [← hc5, sr_ne (by decide), wc_at, if_pos ⟨rfl, rfl, rfl⟩, n4 2004 (by decide), x3 2004 (by decide)]
  · rw [← hc5, sr_at, if_neg (by omega), wc_ne (by decide), ← hc4, sr_at, if_pos ⟨rfl, rfl⟩, cp_at, if_pos (by omega), Nat.sub_zero, x3 2006 (by decide)]
  · rw [← hc5, sr_at, if_pos ⟨rfl, rfl⟩, cp_at, if_pos (by omega), Nat.sub_zero, n4 2006 (by decide), x3 2006 (by decide)]
