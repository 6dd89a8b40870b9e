/-! ===== the class keeps a whole state ===== -/
theorem gfl_e {c c' : h_C} (n : eC [2013] c c') (j : Nat) : gfl c' j = gfl c j := by
  unfold gfl
  rw [n 6 (by decide), n 7 (by decide), n 8 (by decide), n 9 (by decide), n 10 (by decide), n 11 (by decide), n 12 (by decide), n 13 (by decide), n 14 (by decide), n 15 (by decide), n 16 (by decide)]
theorem s_gkeeps {w x : Nat} (hw : w < 3) (hx : x < 30) {G : Nat} (hG : G ≤ 40) : ∀ (d g fu : Nat) (c : h_C), g + d = G → d < fu → (∀ j, c 7 (j + 1) 0 = 0 ∨ c 7 (j + 1) 0 = 1) → ∃ c', GO_State_keep_71 fu w (x : Int) (G : Int) (g : Int) c = GO_State_keep_97 3000 w (x : Int) 1 c' ∧ eC [2013] c c' ∧ (∀ i k, (i ≤ 40 * w + g ∨ 40 * w + G < i ∨ k < 11 * x ∨ 11 * x + 11 ≤ k) → c' 2013 i k = c 2013 i k) ∧ (∀ g' t, g ≤ g' → g' < G → t < 11 → c' 2013 (40 * w + g' + 1) (11 * x + t) = (gfl c (40 * w + g' + 1)).getD t 0) := by
  intro d
  induction d with
  | zero =>
    intro g fu c hd hf h7
    obtain ⟨fu, rfl⟩ : ∃ g, fu = g + 1 := ⟨fu - 1, by omega⟩
    refine ⟨c, ?_, eC.rf _ _, fun _ _ _ => rfl, fun g' t h1 h2 => by omega⟩
    show GL_State_keep_71 _ _ _ _ _ c = _
    unfold GL_State_keep_71
    rw [if_pos (by omega)]
  | succ d ih =>
    intro g fu c hd hf h7
    obtain ⟨fu, rfl⟩ : ∃ g, fu = g + 1 := ⟨fu - 1, by omega⟩
    have hj : vG (40 * w + g + 1) := ⟨by omega, by omega⟩
    have x1 := s_gkeep hj hx c (h7 _)
    have nC : eC [2013] c (wl c 2013 (40 * w + g + 1) (11 * x) (gfl c (40 * w + g + 1))) := fun f hf => by
      funext i k
      exact wl_n (Or.inl (fun w => hf (by rw [w]; exact List.mem_cons_self)))
    have hl : (gfl c (40 * w + g + 1)).length = 11 := rfl
    obtain ⟨c', y1, y2, y3, y4⟩ := ih (g + 1) fu (wl c 2013 (40 * w + g + 1) (11 * x) (gfl c (40 * w + g + 1))) (by omega) (by omega) (fun j => by rw [nC 7 (by decide)]; exact h7 j)
    refine ⟨c', ?_, nC.tr y2, fun i k h => ?_, fun g' t h1 h2 h3 => ?_⟩
    · rw [← y1]
      show GL_State_keep_71 _ _ _ _ _ c = _
      unfold GL_State_keep_71
      rw [if_neg (by omega), gd1 hw, gd1 (by omega), Int.toNat_natCast, x1, q_some, p_w1 (by omega) (by omega)]
      rfl
    · rw [y3 i k (by omega), wl_n (by omega)]
    · by_cases e : g' = g
      · subst e
        rw [y3 _ _ (by omega), wl_at, if_pos ⟨rfl, rfl, by omega, by omega⟩, Nat.add_sub_cancel_left]
      · rw [y4 g' t (by omega) h2 h3]
        rw [gfl_e nC]
def PK (c c' : h_C) (v x : Nat) : Prop := c' 2016 v (37 * x) = c 101 v 0 ∧ (c 101 v 0 ≠ 0 → (∀ t, t < 9 → c' 2016 v (37 * x + t) = (pfl c v).getD t 0) ∧ (∀ k, k < 16 → c' 2016 v (37 * x + 9 + k) = c 2014 v k) ∧ (∀ k, k < 12 → c' 2016 v (37 * x + 25 + k) = c 2015 v k))
theorem s_pkeeps {w x : Nat} (hw : w < 3) (hx : x < 30) : ∀ (d pl fu : Nat) (c : h_C), pl + d = 31 → 1 ≤ pl → d < fu → (∀ j, c 101 j 0 ≠ 0 → 31 * w + pl ≤ j → j ≤ 31 * w + 30 → c 107 j 0 = 0 ∨ c 107 j 0 = 1) → ∃ c', GO_State_keep_97 fu w (x : Int) (pl : Int) c = GL_State_keep_97 (fun _ _ _ _ => none) w (x : Int) 31 c' ∧ eC [2016] c c' ∧ (∀ i k, (i < 31 * w + pl ∨ 31 * w + 30 < i ∨ k < 37 * x ∨ 37 * x + 37 ≤ k) → c' 2016 i k = c 2016 i k) ∧ (∀ p', pl ≤ p' → p' ≤ 30 → PK c c' (31 * w + p') x) := by
  intro d
  induction d with
  | zero =>
    intro pl fu c hd h1 hf h7
    obtain ⟨fu, rfl⟩ : ∃ g, fu = g + 1 := ⟨fu - 1, by omega⟩
    have ep : pl = 31 := by omega
    subst ep
    refine ⟨c, ?_, eC.rf _ _, fun _ _ _ => rfl, fun p' z1 z2 => by omega⟩
    show GL_State_keep_97 _ _ _ _ c = _
    unfold GL_State_keep_97
    rw [if_pos (by omega), if_pos (by omega)]
  | succ d ih =>
    intro pl fu c hd h1 hf h7
    obtain ⟨fu, rfl⟩ : ∃ g, fu = g + 1 := ⟨fu - 1, by omega⟩
    have hv : vP (31 * w + pl) := ⟨by omega, by omega⟩
    obtain ⟨c1, a1, a2, a3, a4⟩ := s_pkeep hv hx c (fun h => h7 _ h (by omega) (by omega))
    obtain ⟨c', y1, y2, y3, y4⟩ := ih (pl + 1) fu c1 (by omega) (by omega) (by omega) (fun j h z1 z2 => by
      rw [a2 107 (by decide)]
      rw [a2 101 (by decide)] at h
      exact h7 j h (by omega) z2)
    refine ⟨c', ?_, a2.tr y2, fun i k h => ?_, fun p' z1 z2 => ?_⟩
    · rw [← y1]
      show GL_State_keep_97 _ _ _ _ c = _
      unfold GL_State_keep_97
      rw [if_neg (by omega), gd1 hw, gd1 (by omega), gd1 (by omega), Int.toNat_natCast, a1, q_some, p_w1 (by omega) (by omega)]
      rfl
    · rw [y3 i k (by omega), a3 i k (by omega)]
    · by_cases e : p' = pl
      · subst e
        have f : ∀ k, c' 2016 (31 * w + p') k = c1 2016 (31 * w + p') k := fun k => y3 _ _ (by omega)
        unfold PK
        simp only [f]
        exact a4
      · have := y4 p' (by omega) z2
        unfold PK pfl at this ⊢
        rw [a2 101 (by decide), a2 102 (by decide), a2 103 (by decide), a2 104 (by decide), a2 105 (by decide), a2 106 (by decide), a2 107 (by decide), a2 109 (by decide), a2 111 (by decide), a2 2014 (by decide), a2 2015 (by decide)] at this
        exact this
theorem s_stKeep {w x : Nat} (hw : w < 3) (hx : x < 30) {G : Nat} (hG : G ≤ 40) (c : h_C) (h7 : ∀ j, c 7 (j + 1) 0 = 0 ∨ c 7 (j + 1) 0 = 1) (h107 : ∀ pl, 1 ≤ pl → pl ≤ 30 → c 101 (31 * w + pl) 0 ≠ 0 → c 107 (31 * w + pl) 0 = 0 ∨ c 107 (31 * w + pl) 0 = 1) : ∃ c', G_State_keep w (x : Int) (G : Int) c = some c' ∧ eC [2007, 2013, 2016, 2004, 2006] c c' ∧
    ((∀ i k, (i ≠ w ∨ k < 16 * x ∨ 16 * x + 16 ≤ k) → c' 2007 i k = c 2007 i k) ∧ (∀ i k, (i ≤ 40 * w ∨ 40 * w + G < i ∨ k < 11 * x ∨ 11 * x + 11 ≤ k) → c' 2013 i k = c 2013 i k) ∧ (∀ i k, (i < 31 * w + 1 ∨ 31 * w + 30 < i ∨ k < 37 * x ∨ 37 * x + 37 ≤ k) → c' 2016 i k = c 2016 i k) ∧ (∀ i k, (i / 2 ≠ w ∨ k ≠ x) → c' 2004 i k = c 2004 i k) ∧ (∀ i k, (i ≠ 2 * w ∨ k < 200 * x ∨ 200 * x + 200 ≤ k) → (i ≠ 2 * w + 1 ∨ k < 150 * x ∨ 150 * x + 150 ≤ k) → c' 2006 i k = c 2006 i k)) ∧
    ((c' 2007 w (16 * x) = c 300 w 0 ∧ c' 2007 w (16 * x + 1) = c 301 w 0 ∧ c' 2007 w (16 * x + 2) = c 302 w 0 ∧ c' 2007 w (16 * x + 3) = c 303 w 0 ∧ ∀ r, r < 12 → c' 2007 w (16 * x + 4 + r) = c 2003 w r) ∧ (∀ g t, g < G → t < 11 → c' 2013 (40 * w + g + 1) (11 * x + t) = (gfl c (40 * w + g + 1)).getD t 0) ∧ (∀ pl, 1 ≤ pl → pl ≤ 30 → PK c c' (31 * w + pl) x) ∧ (c' 2004 (2 * w) x = c 403 (2 * w) 0 ∧ c' 2004 (2 * w + 1) x = c 403 (2 * w + 1) 0) ∧ (∀ k, k < 200 → c' 2006 (2 * w) (200 * x + k) = c 2005 (2 * w) k) ∧ (∀ k, k < 150 → c' 2006 (2 * w + 1) (150 * x + k) = c 2005 (2 * w + 1) k)) := by
  have e0 : p_w (16 * (x : Int)) = ((16 * x : Nat) : Int) := by rw [p_w1 (by omega) (by omega)]; omega
  have ek : ∀ t : Nat, t < 16 → p_w (((16 * x : Nat) : Int) + (t : Int)) = ((16 * x + t : Nat) : Int) := fun t ht => by rw [p_w1 (by omega) (by omega)]; omega
  have e1 := ek 1 (by omega)
  have e2 := ek 2 (by omega)
  have e3 := ek 3 (by omega)
  have e4 := ek 4 (by omega)
  generalize hc1 : sr (wl c 2007 w (16 * x) [c 300 w 0, c 301 w 0, c 302 w 0, c 303 w 0]) 2007 w (cp (c 2003 w) 0 ((wl c 2007 w (16 * x) [c 300 w 0, c 301 w 0, c 302 w 0, c 303 w 0]) 2007 w) (16 * x + 4) 12) = c1
  have hat : ∀ f i k, c1 f i k = if f = 2007 ∧ i = w ∧ 16 * x + 4 ≤ k ∧ k < 16 * x + 16 then c 2003 w (k - (16 * x + 4)) else if f = 2007 ∧ i = w ∧ 16 * x ≤ k ∧ k < 16 * x + 4 then [c 300 w 0, c 301 w 0, c 302 w 0, c 303 w 0].getD (k - 16 * x) 0 else c f i k := fun f i k => by
    rw [← hc1, sr_at]
    by_cases h1 : f = 2007 ∧ i = w
    · obtain ⟨rfl, rfl⟩ := h1
      rw [if_pos ⟨rfl, rfl⟩, cp_at]
      by_cases h2 : 16 * x + 4 ≤ k ∧ k < 16 * x + 4 + 12
      · rw [if_pos h2, if_pos (by omega), Nat.zero_add]
      · rw [if_neg h2, if_neg (by omega), wl_at]
        rfl
    · rw [if_neg h1, if_neg (by omega), if_neg (by omega), wl_n (by omega)]
  have n1 : eC [2007] c c1 := fun f hf => by
    funext i k
    have hf' : f ≠ 2007 := fun w => hf (by rw [w]; exact List.mem_cons_self)
    rw [hat, if_neg (by omega), if_neg (by omega)]
  obtain ⟨c2, a1, a2, a3, a4⟩ := s_gkeeps hw hx hG G 0 3000 c1 (by omega) (by omega) (fun j => by rw [n1 7 (by decide)]; exact h7 j)
  obtain ⟨c3, b1, b2, b3, b4⟩ := s_pkeeps hw hx 30 1 3000 c2 (by omega) (by omega) (by omega) (fun j h z1 z2 => by
    rw [a2 107 (by decide), n1 107 (by decide)]
    rw [a2 101 (by decide), n1 101 (by decide)] at h
    have := h107 (j - 31 * w) (by omega) (by omega)
    rw [show 31 * w + (j - 31 * w) = j by omega] at this
    exact this h)
  have d1 := s_lkeep (j := 2 * w) (by show 2 * w < 6; omega) hx c3 (n := 200) (by rw [if_pos (by omega)])
  have x3 : eC [2007, 2013, 2016] c c3 := ((n1.up (by decide)).tr (a2.up (by decide))).tr (b2.up (by decide))
  generalize hc4 : sr (wc c3 2004 (2 * w) x (c3 403 (2 * w) 0)) 2006 (2 * w) (cp (c3 2005 (2 * w)) 0 (c3 2006 (2 * w)) (200 * x) 200) = c4 at d1
  have n4 : eC [2004, 2006] c3 c4 := by rw [← hc4]; exact (by repeat first | exact eC.rf _ _ | refine eC.wc ?_ (by decide) _ _ _ | refine eC.sr ?_ (by decide) _ _)
  have d2 := s_lkeep (j := 2 * w + 1) (by show 2 * w + 1 < 6; omega) hx c4 (n := 150) (by rw [if_neg (by omega)])
  generalize hc5 : sr (wc c4 2004 (2 * w + 1) x (c4 403 (2 * w + 1) 0)) 2006 (2 * w + 1) (cp (c4 2005 (2 * w + 1)) 0 (c4 2006 (2 * w + 1)) (150 * x) 150) = c5 at d2
  have n5 : eC [2004, 2006] c4 c5 := by rw [← hc5]; exact (by repeat first | exact eC.rf _ _ | refine eC.wc ?_ (by decide) _ _ _ | refine eC.sr ?_ (by decide) _ _)
  have n35 : eC [2004, 2006] c3 c5 := n4.tr n5
  refine ⟨c5, ?_, (x3.up (by decide)).tr (n35.up (by decide)), ⟨fun i k h => ?_, fun i k h => ?_, fun i k h => ?_, fun i k h => ?_, fun i k h h' => ?_⟩, ⟨⟨?_, ?_, ?_, ?_, fun r hr => ?_⟩, fun g t hg ht => ?_, fun pl p1 p2 => ?_, ⟨?_, ?_⟩, fun k hk => ?_, fun k hk => ?_⟩⟩
  · unfold G_State_keep
    rw [e0, bi1, gd1 hw, gd1 (by omega), Int.toNat_natCast, show (2 : Int) = ((2 : Nat) : Int) from rfl, show (3 : Int) = ((3 : Nat) : Int) from rfl, show (4 : Int) = ((4 : Nat) : Int) from rfl, show p_w (((16 * x : Nat) : Int) + 1) = ((16 * x + 1 : Nat) : Int) from e1, e2, e3, e4]
    simp (discharger := omega) only [gd1, bi1, Int.toNat_natCast, wc_ne]
    have r1 : (wl c 2007 w (16 * x) [c 300 w 0, c 301 w 0, c 302 w 0, c 303 w 0]) 2003 w = c 2003 w := funext fun k => wl_n (by omega)
    rw [← r1] at hc1
    have hc1' : sr (wc (wc (wc (wc c 2007 w (16 * x) (c 300 w 0)) 2007 w (16 * x + 1) (c 301 w 0)) 2007 w (16 * x + 2) (c 302 w 0)) 2007 w (16 * x + 3) (c 303 w 0)) 2007 w (cp ((wc (wc (wc (wc c 2007 w (16 * x) (c 300 w 0)) 2007 w (16 * x + 1) (c 301 w 0)) 2007 w (16 * x + 2) (c 302 w 0)) 2007 w (16 * x + 3) (c 303 w 0)) 2003 w) 0 ((wc (wc (wc (wc c 2007 w (16 * x) (c 300 w 0)) 2007 w (16 * x + 1) (c 301 w 0)) 2007 w (16 * x + 2) (c 302 w 0)) 2007 w (16 * x + 3) (c 303 w 0)) 2007 w) (16 * x + 4) 12) = c1 := hc1
    show GO_State_keep_71 3000 w (x : Int) (G : Int) 0 (sr _ _ _ (cp _ 0 _ (16 * x + 4) 12)) = _
    rw [hc1']
    have a1' : GO_State_keep_71 3000 w (x : Int) (G : Int) 0 c1 = GO_State_keep_97 3000 w (x : Int) 1 c2 := a1
    have b1' : GO_State_keep_97 3000 w (x : Int) 1 c2 = GL_State_keep_97 (fun _ _ _ _ => none) w (x : Int) 31 c3 := b1
    rw [a1', b1']
    unfold GL_State_keep_97
    rw [if_pos (by decide), gd1 hw, d1, q_some, d2, q_some]
  · rw [n35 2007 (by decide), b2 2007 (by decide), a2 2007 (by decide), hat, if_neg (by omega), if_neg (by omega)]
  · rw [n35 2013 (by decide), b2 2013 (by decide), a3 i k (by omega), n1 2013 (by decide)]
  · rw [n35 2016 (by decide), b3 i k (by omega), a2 2016 (by decide), n1 2016 (by decide)]
  · rw [← hc5, sr_ne (by decide), wc_at, if_neg (by omega), ← hc4, sr_ne (by decide), wc_at, if_neg (by omega), x3 2004 (by decide)]
  · rw [← hc5, sr_at]
    by_cases h1 : i = 2 * w + 1
    · subst h1
      rw [if_pos ⟨rfl, rfl⟩, cp_at, if_neg (by omega), ← hc4, sr_at, if_neg (by omega), wc_ne (by decide), x3 2006 (by decide)]
    · rw [if_neg (by omega), wc_ne (by decide), ← hc4, sr_at]
      by_cases h2 : i = 2 * w
      · subst h2
        rw [if_pos ⟨rfl, rfl⟩, cp_at, if_neg (by omega), x3 2006 (by decide)]
      · rw [if_neg (by omega), wc_ne (by decide), x3 2006 (by decide)]
  · rw [n35 2007 (by decide), b2 2007 (by decide), a2 2007 (by decide), hat, if_neg (by omega), if_pos (by omega), Nat.sub_self]
    rfl
  · rw [n35 2007 (by decide), b2 2007 (by decide), a2 2007 (by decide), hat, if_neg (by omega), if_pos (by omega), Nat.add_sub_cancel_left]
    rfl
  · rw [n35 2007 (by decide), b2 2007 (by decide), a2 2007 (by decide), hat, if_neg (by omega), if_pos (by omega), Nat.add_sub_cancel_left]
    rfl
  · rw [n35 2007 (by decide), b2 2007 (by decide), a2 2007 (by decide), hat, if_neg (by omega), if_pos (by omega), Nat.add_sub_cancel_left]
    rfl
  · rw [n35 2007 (by decide), b2 2007 (by decide), a2 2007 (by decide), hat, if_pos (by omega), Nat.add_sub_cancel_left]
  · rw [n35 2013 (by decide), b2 2013 (by decide), a4 g t (by omega) hg ht]
    unfold gfl
    rw [n1 6 (by decide), n1 7 (by decide), n1 8 (by decide), n1 9 (by decide), n1 10 (by decide), n1 11 (by decide), n1 12 (by decide), n1 13 (by decide), n1 14 (by decide), n1 15 (by decide), n1 16 (by decide)]
  · have := b4 pl p1 p2
    unfold PK pfl at this ⊢
    have n2 : eC [2007, 2013] c c2 := (n1.up (by decide)).tr (a2.up (by decide))
    rw [n2 101 (by decide), n2 102 (by decide), n2 103 (by decide), n2 104 (by decide), n2 105 (by decide), n2 106 (by decide), n2 107 (by decide), n2 109 (by decide), n2 111 (by decide), n2 2014 (by decide), n2 2015 (by decide)] at this
    rw [n35 2016 (by decide)]
    exact this
  · rw [← hc5, sr_ne (by decide), wc_at, if_neg (by omega), ← hc4, sr_ne (by decide), wc_at, if_pos ⟨rfl, rfl, rfl⟩, x3 403 (by decide)]
  · rw [← hc5, sr_ne (by decide), wc_at, if_pos ⟨rfl, rfl, rfl⟩, n4 403 (by decide), x3 403 (by decide)]
  · rw [← hc5, sr_at, if_neg (by omega), wc_ne (by decide), ← hc4, sr_at, if_pos ⟨rfl, rfl⟩, cp_at, if_pos (by omega), Nat.zero_add, Nat.add_sub_cancel_left, x3 2005 (by decide)]
  · rw [← hc5, sr_at, if_pos ⟨rfl, rfl⟩, cp_at, if_pos (by omega), Nat.zero_add, Nat.add_sub_cancel_left, n4 2005 (by decide), x3 2005 (by decide)]
