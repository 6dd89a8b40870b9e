/-! ===== inside a step ===== -/
theorem p_wadd {x y : Int} : p_w (p_w x + y) = p_w (x + y) := by
  unfold p_w
  rw [Int32.toInt_ofInt, Int32.toInt_ofInt, Int32.toInt_ofInt]
  exact Int.bmod_add_bmod
/-- which parcels have moved, in both -/
def MV (c : h_C) (m : h_M) (w : Nat) : Prop := ∀ pl q : Nat, 1 ≤ pl → pl ≤ 30 → 1 ≤ q → c 101 (31 * w + pl) 0 = (q : Int) → c 108 (31 * w + pl) 0 = m 36 q ∧ (m 36 q = 0 ∨ m 36 q = 1)
/-- whether a finding came in the act, in both -/
def FD (b : Nat) (c : h_C) (m : h_M) : Prop := m 171 0 = -1 ∨ (c 804 0 0 = 0 ∧ m 172 0 = 0) ∨ (c 804 0 0 = 1 ∧ 1 ≤ m 172 0 ∧ m 172 0 ≤ (b : Int))
def ZZ (b : Nat) (c : h_C) (m : h_M) (w : Nat) (F L : Int) : Prop := RR b c m ∧ (w < 3 ∧ m 100 0 = (w : Int) ∧ c 5000 0 0 = (w : Int) ∧ c 5001 0 0 = 1 ∧ c 5002 0 0 = (w : Int) ∧ c 5003 0 0 = (w : Int)) ∧ MV c m w ∧ FD b c m ∧ c 607 0 0 = F ∧ m 102 0 = p_w (F + (m 42 w - L))
theorem FD.more {b b' : Nat} (hb : b ≤ b') {c : h_C} {m : h_M} (h : FD b c m) : FD b' c m := by
  rcases h with h | h | ⟨h1, h2, h3⟩
  · exact Or.inl h
  · exact Or.inr (Or.inl h)
  · exact Or.inr (Or.inr ⟨h1, h2, by omega⟩)
theorem ZZ.of {b b' : Nat} {c c' : h_C} {m m' : h_M} {w : Nat} {F L : Int} (h : ZZ b c m w F L) (hb : b ≤ b') (hR : RR b' c' m') (hc : ∀ f ∈ [5000, 5001, 5002, 5003, 108, 101, 804, 607], c' f = c f) (hm : ∀ f ∈ [100, 36, 171, 172, 102, 42], m' f = m f) : ZZ b' c' m' w F L := by
  obtain ⟨_, ⟨h1, h2, h3, h4, h5, h6⟩, h7, h8, h9, h10⟩ := h
  refine ⟨hR, ⟨h1, ?_, ?_, ?_, ?_, ?_⟩, ?_, ?_, ?_, ?_⟩
  · rw [hm 100 (by decide)]; exact h2
  · rw [hc 5000 (by decide)]; exact h3
  · rw [hc 5001 (by decide)]; exact h4
  · rw [hc 5002 (by decide)]; exact h5
  · rw [hc 5003 (by decide)]; exact h6
  · unfold MV
    rw [hc 101 (by decide), hc 108 (by decide), hm 36 (by decide)]; exact h7
  · unfold FD
    rw [hc 804 (by decide), hm 171 (by decide), hm 172 (by decide)]; exact h8.more hb
  · rw [hc 607 (by decide)]; exact h9
  · rw [hm 102 (by decide), hm 42 (by decide)]; exact h10
theorem ZZ.ofE {b b' : Nat} {c c' : h_C} {m m' : h_M} {w : Nat} {F L : Int} {lc lm : List Nat} (h : ZZ b c m w F L) (hb : b ≤ b') (hR : RR b' c' m') (hc : eC lc c c') (hm : eM lm m m') (d1 : dj [5000, 5001, 5002, 5003, 108, 101, 804, 607] lc) (d2 : dj [100, 36, 171, 172, 102, 42] lm) : ZZ b' c' m' w F L := h.of hb hR (fun _ hf => hc.of hf d1) (fun _ hf => hm.of hf d2)
/-- rows that nothing rests on -/
theorem ZZ.scr {b : Nat} {c c' : h_C} {m m' : h_M} {w : Nat} {F L : Int} {lc lm : List Nat} (h : ZZ b c m w F L) (hc : eC lc c c') (hm : eM lm m m') (d1 : dj [5000, 5001, 5002, 5003, 108, 101, 804, 607] lc) (d2 : dj [100, 36, 171, 172, 102, 42] lm) (e1 : dj sAll lc) (e2 : dj tAll lm) : ZZ b c' m' w F L := h.ofE (Nat.le_refl b) (h.1.scr lc lm hc hm e1 e2) hc hm d1 d2
theorem ZZ.tr {b : Nat} (hb : b < 2000000000) {c : h_C} {m : h_M} {w : Nat} {F L : Int} (h : ZZ b c m w F L) (v : Int) : ∃ c' m', G_Step_addTrace v c = some c' ∧ G_Mo_body v m = some m' ∧ ZZ (b + 1) c' m' w F L ∧ eC [211, 2037] c c' ∧ eM [44, 45] m m' := by
  obtain ⟨hR, ⟨hw, e1, e2, e3, e4, e5⟩, _⟩ := id h
  obtain ⟨t1, t2, t3, t4⟩ := hR.T w hw
  obtain ⟨t, ht⟩ : ∃ t : Nat, m 44 w = (t : Int) := ⟨(m 44 w).toNat, by omega⟩
  have fin : ∀ (c' : h_C) (m' : h_M), eC [211, 2037] c c' → eM [44, 45] m m' → (∀ w' , w' < 3 → c' 211 w' 0 = m' 44 w' ∧ 0 ≤ m' 44 w' ∧ m' 44 w' ≤ ((b + 1 : Nat) : Int) ∧ (∀ k : Nat, k < 60 → c' 2037 w' k = m' 45 (60 * w' + k))) → ZZ (b + 1) c' m' w F L := fun c' m' nC nM hT => by
    exact h.ofE (Nat.le_succ b) (RR.gen [211, 2037] [44, 45] (hR.more (Nat.le_succ b)) nC nM (Or.inl ⟨rfl, rfl⟩) (Or.inl ⟨rfl, rfl⟩) (Or.inl ⟨rfl, rfl⟩) (Or.inl ⟨rfl, rfl⟩) (Or.inl ⟨rfl, rfl⟩) (Or.inl ⟨rfl, rfl⟩) (Or.inr hT) (Or.inl ⟨rfl, rfl⟩) (Or.inl ⟨rfl, rfl⟩) (Or.inl ⟨rfl, rfl⟩) (Or.inl ⟨rfl, rfl⟩) (Or.inl ⟨rfl, rfl⟩)) nC nM rfl rfl
  by_cases h60 : (60 : Int) ≤ (t : Int)
  · have hC : G_Step_addTrace v c = some (wc c 211 w 0 ((t : Int) + 1)) := by
      unfold G_Step_addTrace GB_Step_addTrace_28
      rw [e4, Int.toNat_natCast, gd1 (by omega), t1, ht, if_pos h60, gd1 (by omega), p_w1 (by omega) (by omega)]
      exact bX rfl
    have hM : G_Mo_body v m = some (wm m 44 w ((t : Int) + 1)) := by
      unfold G_Mo_body GB_Mo_body_37
      rw [e1, Int.toNat_natCast, gd1 (by omega), ht, if_pos h60, gd1 (by omega), p_w1 (by omega) (by omega)]
      exact bX rfl
    refine ⟨_, _, hC, hM, fin _ _ (eC.up (l := [211]) (by repeat first | exact eC.rf _ _ | refine eC.wc ?_ (by decide) _ _ _ | refine eC.sr ?_ (by decide) _ _) (by decide)) (eM.up (l := [44]) (by repeat first | exact eM.rf _ _ | refine eM.wm ?_ (by decide) _ _) (by decide)) (fun w' hw' => ?_), eC.up (l := [211]) (by repeat first | exact eC.rf _ _ | refine eC.wc ?_ (by decide) _ _ _ | refine eC.sr ?_ (by decide) _ _) (by decide), eM.up (l := [44]) (by repeat first | exact eM.rf _ _ | refine eM.wm ?_ (by decide) _ _) (by decide)⟩
    obtain ⟨s1, s2, s3, s4⟩ := hR.T w' hw'
    by_cases ew : w' = w
    · subst ew
      refine ⟨by simp [wc_at, wm_at], by simp [wm_at]; omega, by simp [wm_at]; omega, fun k hk => by simpa [wc_at, wm_at] using s4 k hk⟩
    · refine ⟨by simpa [wc_at, wm_at, ew] using s1, by simpa [wm_at, ew] using s2, by simp [wm_at, ew]; omega, fun k hk => by simpa [wc_at, wm_at] using s4 k hk⟩
  · have r1 : (wc c 2037 w t v) 5002 0 0 = (w : Int) := by simp [wc_at, e4]
    have r2 : (wc c 2037 w t v) 211 w 0 = (t : Int) := by simp [wc_at, t1, ht]
    have r3 : (wm m 45 (60 * w + t) v) 100 0 = (w : Int) := by simp [wm_at, e1]
    have r4 : (wm m 45 (60 * w + t) v) 44 w = (t : Int) := by simp [wm_at, ht]
    have hC : G_Step_addTrace v c = some (wc (wc c 2037 w t v) 211 w 0 ((t : Int) + 1)) := by
      unfold G_Step_addTrace GB_Step_addTrace_28
      rw [e4, Int.toNat_natCast, gd1 (by omega), t1, ht, if_neg h60, gd1 (by omega), Int.toNat_natCast]
      refine bX ?_
      rw [r1, Int.toNat_natCast, gd1 (by omega), r2, p_w1 (by omega) (by omega)]
      exact bX rfl
    have hM : G_Mo_body v m = some (wm (wm m 45 (60 * w + t) v) 44 w ((t : Int) + 1)) := by
      unfold G_Mo_body GB_Mo_body_37
      rw [e1, Int.toNat_natCast, gd1 (by omega), ht, if_neg h60, p_w1 (x := 60 * (w : Int)) (by omega) (by omega), p_w1 (x := 60 * (w : Int) + (t : Int)) (by omega) (by omega), gd1 (by omega), show (60 * (w : Int) + (t : Int)).toNat = 60 * w + t by omega]
      refine bX ?_
      rw [r3, Int.toNat_natCast, gd1 (by omega), r4, p_w1 (by omega) (by omega)]
      exact bX rfl
    refine ⟨_, _, hC, hM, fin _ _ (by repeat first | exact eC.rf _ _ | refine eC.wc ?_ (by decide) _ _ _ | refine eC.sr ?_ (by decide) _ _) (by repeat first | exact eM.rf _ _ | refine eM.wm ?_ (by decide) _ _) (fun w' hw' => ?_), (by repeat first | exact eC.rf _ _ | refine eC.wc ?_ (by decide) _ _ _ | refine eC.sr ?_ (by decide) _ _), (by repeat first | exact eM.rf _ _ | refine eM.wm ?_ (by decide) _ _)⟩
    obtain ⟨s1, s2, s3, s4⟩ := hR.T w' hw'
    have hk45 : ∀ k : Nat, k < 60 → (wc (wc c 2037 w t v) 211 w 0 ((t : Int) + 1)) 2037 w' k = (wm (wm m 45 (60 * w + t) v) 44 w ((t : Int) + 1)) 45 (60 * w' + k) := fun k hk => by
      simp only [wc_at, wm_at]
      by_cases e : w' = w ∧ k = t
      · obtain ⟨rfl, rfl⟩ := e
        simp
      · rw [if_neg (by omega), if_neg (by omega), if_neg (by omega), if_neg (by omega)]
        exact s4 k hk
    by_cases ew : w' = w
    · subst ew
      exact ⟨by simp [wc_at, wm_at], by simp [wm_at]; omega, by simp [wm_at]; omega, hk45⟩
    · exact ⟨by simpa [wc_at, wm_at, ew] using s1, by simpa [wm_at, ew] using s2, by simp [wm_at, ew]; omega, hk45⟩
theorem s_logAdd {w : Nat} (hw : w < 3) {c : h_C} {m : h_M} {b : Nat} (hb : b < 2000000000) (hL : RL b c m) (a1 a2 a3 a4 a5 : Int) : ∃ c' t, t < 40 ∧ m 42 w % 40 = ((t : Nat) : Int) ∧ G_Log_add (2 * w) a1 a2 a3 a4 a5 c = some c' ∧ c' = wc (wc (wc (wc (wc (wc c 2005 (2 * w) (5 * t) a1) 2005 (2 * w) (5 * t + 1) a2) 2005 (2 * w) (5 * t + 2) a3) 2005 (2 * w) (5 * t + 3) a4) 2005 (2 * w) (5 * t + 4) a5) 403 (2 * w) 0 (m 42 w + 1) := by
  obtain ⟨⟨l1, l2, l3, l4, l5, l6⟩, _⟩ := hL w hw
  have q2 : 0 ≤ m 42 w % 40 ∧ m 42 w % 40 < 40 := ⟨Int.emod_nonneg _ (by omega), Int.emod_lt_of_pos _ (by omega)⟩
  obtain ⟨t, ht⟩ : ∃ t : Nat, m 42 w % 40 = (t : Int) := ⟨(m 42 w % 40).toNat, by omega⟩
  have q3 : ((if 2 * w % 2 = 0 then 200 else 150 : Nat) : Int) = 200 := by rw [if_pos (by omega)]; rfl
  refine ⟨_, t, by omega, ht, ?_, rfl⟩
  unfold G_Log_add
  have q1 : p_rem (m 42 w) 40 = (t : Int) := by rw [p_rem1 (by omega) (by omega) (by omega), ht]
  rw [gd1 (show vL (2 * w) by omega), l1, gd1 (by decide), l3, q1, p_w1 (by omega) (by omega), bi1, q3]
  have s0 : ((t : Int) * 5).toNat = 5 * t := by omega
  have s1 : ((t : Int) * 5 + 1).toNat = 5 * t + 1 := by omega
  have s2 : ((t : Int) * 5 + 2).toNat = 5 * t + 2 := by omega
  have s3 : ((t : Int) * 5 + 3).toNat = 5 * t + 3 := by omega
  have s4 : ((t : Int) * 5 + 4).toNat = 5 * t + 4 := by omega
  have r : (wc (wc (wc (wc (wc c 2005 (2 * w) (5 * t) a1) 2005 (2 * w) (5 * t + 1) a2) 2005 (2 * w) (5 * t + 2) a3) 2005 (2 * w) (5 * t + 3) a4) 2005 (2 * w) (5 * t + 4) a5) 403 (2 * w) 0 = m 42 w := by simp [wc_at, l3]
  simp (discharger := omega) only [p_w1 (x := (t : Int) * 5 + 1), p_w1 (x := (t : Int) * 5 + 2), p_w1 (x := (t : Int) * 5 + 3), p_w1 (x := (t : Int) * 5 + 4), gd1, bi1, s0, s1, s2, s3, s4, r, p_w1 (x := m 42 w + 1)]
/-- a finding, in both; g is the gear that acts, or -1 in plans -/
theorem ZZ.fi {b : Nat} (hb : b < 2000000000) {c : h_C} {m : h_M} {w : Nat} {F L : Int} (h : ZZ b c m w F L) (g act f what : Int) (hf : 1 ≤ f ∧ f ≤ 6) (hg : (g = -1 ∧ m 171 0 = -1) ∨ (0 ≤ g ∧ g < m 3 w ∧ m 171 0 = g)) : ∃ c' m', G_Step_addFinding (if g = -1 then -9 else g) act (-10 - f) what c = some c' ∧ G_Mo_find act f what m = some m' ∧ ZZ (b + 1) c' m' w F L ∧ eC [2005, 403, 804, 12] c c' ∧ eM [43, 42, 102, 172, 20] m m' ∧ c' 804 0 0 = 1 := by
  obtain ⟨hR, ⟨hw, e1, e2, e3, e4, e5⟩, hMV, hFD, hF, hFC⟩ := id h
  obtain ⟨c1, t, t40, ht, x1, x2⟩ := s_logAdd hw hb hR.L (m 4 w) (if g = -1 then -9 else g) act f what
  have l4 := (hR.L w hw).1.2.2.2
  have s1 := (hR.S w hw).1
  have q1 : p_rem (m 42 w) 40 = (t : Int) := by rw [p_rem1 (by omega) (by omega) (by omega), ht]
  generalize hm1 : wm (wm (wm (wm (wm (wm (wm (wm m 43 (200 * w + 5 * t) (m 4 w)) 43 (200 * w + 5 * t + 1) (if g = -1 then -9 else g)) 43 (200 * w + 5 * t + 2) act) 43 (200 * w + 5 * t + 3) f) 43 (200 * w + 5 * t + 4) what) 42 w (m 42 w + 1)) 102 0 (p_w (m 102 0 + 1))) 172 0 (p_w (m 172 0 + 1)) = m1
  have hfind : G_Mo_find act f what m = (if g = -1 then some m1 else some (wm m1 20 (40 * w + g.toNat) (p_w (m1 20 (40 * w + g.toNat) + 1)))) := by
    have key : GB_Mo_find_66 act f what (40 * (w : Int) + (t : Int)) (if g = -1 then -9 else g) (5 * (40 * (w : Int) + (t : Int)) + 1) (wm m 43 (200 * w + 5 * t) (m 4 w)) = (if g = -1 then some m1 else some (wm m1 20 (40 * w + g.toNat) (p_w (m1 20 (40 * w + g.toNat) + 1)))) := by
      unfold GB_Mo_find_66
      have k1 : (wm (wm (wm (wm (wm m 43 (200 * w + 5 * t) (m 4 w)) 43 (200 * w + 5 * t + 1) (if g = -1 then -9 else g)) 43 (200 * w + 5 * t + 2) act) 43 (200 * w + 5 * t + 3) f) 43 (200 * w + 5 * t + 4) what) 100 0 = (w : Int) := by simp [wm_at, e1]
      have k2 : (wm (wm (wm (wm (wm m 43 (200 * w + 5 * t) (m 4 w)) 43 (200 * w + 5 * t + 1) (if g = -1 then -9 else g)) 43 (200 * w + 5 * t + 2) act) 43 (200 * w + 5 * t + 3) f) 43 (200 * w + 5 * t + 4) what) 42 w = m 42 w := by simp [wm_at]
      have k3 : (wm (wm (wm (wm (wm (wm m 43 (200 * w + 5 * t) (m 4 w)) 43 (200 * w + 5 * t + 1) (if g = -1 then -9 else g)) 43 (200 * w + 5 * t + 2) act) 43 (200 * w + 5 * t + 3) f) 43 (200 * w + 5 * t + 4) what) 42 w (m 42 w + 1)) 102 0 = m 102 0 := by simp [wm_at]
      have k4 : (wm (wm (wm (wm (wm (wm (wm m 43 (200 * w + 5 * t) (m 4 w)) 43 (200 * w + 5 * t + 1) (if g = -1 then -9 else g)) 43 (200 * w + 5 * t + 2) act) 43 (200 * w + 5 * t + 3) f) 43 (200 * w + 5 * t + 4) what) 42 w (m 42 w + 1)) 102 0 (p_w (m 102 0 + 1))) 172 0 = m 172 0 := by simp [wm_at]
      have k5 : m1 171 0 = m 171 0 := by rw [← hm1]; simp [wm_at]
      have k6 : m1 100 0 = (w : Int) := by rw [← hm1]; simp [wm_at, e1]
      rw [gd1 (by omega)]
      refine bX ?_
      rw [p_w1 (x := 5 * (40 * (w : Int) + (t : Int))) (by omega) (by omega), p_w1 (x := 5 * (40 * (w : Int) + (t : Int)) + 2) (by omega) (by omega), p_w1 (x := 5 * (40 * (w : Int) + (t : Int)) + 3) (by omega) (by omega), p_w1 (x := 5 * (40 * (w : Int) + (t : Int)) + 4) (by omega) (by omega), gd1 (by omega)]
      refine bX ?_
      rw [gd1 (by omega)]
      refine bX ?_
      rw [gd1 (by omega)]
      refine bX ?_
      rw [show (5 * (40 * (w : Int) + (t : Int)) + 1).toNat = 200 * w + 5 * t + 1 by omega, show (5 * (40 * (w : Int) + (t : Int)) + 2).toNat = 200 * w + 5 * t + 2 by omega, show (5 * (40 * (w : Int) + (t : Int)) + 3).toNat = 200 * w + 5 * t + 3 by omega, show (5 * (40 * (w : Int) + (t : Int)) + 4).toNat = 200 * w + 5 * t + 4 by omega, k1, Int.toNat_natCast, gd1 (by omega), k2, p_w1 (x := m 42 w + 1) (by omega) (by omega)]
      refine bX ?_
      rw [k3]
      refine bX ?_
      rw [k4, hm1]
      refine bX ?_
      rw [k5]
      rcases hg with ⟨z1, z2⟩ | ⟨z1, z2, z3⟩
      · rw [if_pos (by omega), if_pos z1]
      · have gl := (hR.F.1 w).2.2
        rw [if_neg (by omega), if_neg (by omega), z3]
        obtain ⟨n, rfl⟩ : ∃ n : Nat, g = (n : Int) := ⟨g.toNat, by omega⟩
        rw [s_g hw k6 (show n < 40 by omega), q_some, gd1 (by omega), Int.toNat_natCast, Int.toNat_natCast]
        exact bX rfl
    unfold G_Mo_find
    rw [e1, Int.toNat_natCast, gd1 (by omega), q1, p_w1 (x := 40 * (w : Int)) (by omega) (by omega), p_w1 (x := 40 * (w : Int) + (t : Int)) (by omega) (by omega)]
    refine bX ?_
    rw [p_w1 (x := 5 * (40 * (w : Int) + (t : Int))) (by omega) (by omega), gd1 (by omega), show (5 * (40 * (w : Int) + (t : Int))).toNat = 200 * w + 5 * t by omega]
    refine bX ?_
    rw [show (wm m 43 (200 * w + 5 * t) (m 4 w)) 171 0 = m 171 0 by simp [wm_at], p_w1 (x := 5 * (40 * (w : Int) + (t : Int)) + 1) (by omega) (by omega)]
    rcases hg with ⟨z1, z2⟩ | ⟨z1, z2, z3⟩
    · rw [z2, if_neg (by decide)]
      rw [show (if g = -1 then -9 else g) = -9 from if_pos z1] at key
      exact key
    · rw [z3, if_pos z1]
      rw [show (if g = -1 then -9 else g) = g from if_neg (by omega)] at key
      exact key
  -- class
  have hadd : G_Step_addFinding (if g = -1 then -9 else g) act (-10 - f) what c = (if g = -1 then some (wc c1 804 0 0 1) else some (wc (wc c1 804 0 0 1) 12 (40 * w + g.toNat + 1) 0 (p_w (c 12 (40 * w + g.toNat + 1) 0 + 1)))) := by
    unfold G_Step_addFinding
    rw [e5, Int.toNat_natCast, gd1 (by omega), s1, p_w1 (x := -10 - (-10 - f)) (by omega) (by omega), show -10 - (-10 - f) = f by omega, x1, q_some]
    refine bX ?_
    rcases hg with ⟨z1, z2⟩ | ⟨z1, z2, z3⟩
    · rw [if_pos z1, if_pos rfl, if_pos z1]
    · have gl := (hR.F.1 w).2.2
      have r1 : (wc c1 804 0 0 1) 5003 0 0 = (w : Int) := by rw [x2]; simp [wc_at, e5]
      have r2 : (wc c1 804 0 0 1) 12 (40 * w + g.toNat + 1) 0 = c 12 (40 * w + g.toNat + 1) 0 := by rw [x2]; simp [wc_at]
      rw [show (if g = -1 then -9 else g) = g from if_neg (by omega), if_neg (by omega), r1, Int.toNat_natCast, gd1 (by omega), gd1 (by omega), r2, if_neg (by omega)]
      exact bX rfl
  -- the relation without the gear's count
  have nC1 : eC [2005, 403, 804] c (wc c1 804 0 0 1) := by rw [x2]; exact (by repeat first | exact eC.rf _ _ | refine eC.wc ?_ (by decide) _ _ _ | refine eC.sr ?_ (by decide) _ _)
  have nM1 : eM [43, 42, 102, 172] m m1 := by rw [← hm1]; exact (by repeat first | exact eM.rf _ _ | refine eM.wm ?_ (by decide) _ _)
  have hA := hR.A
  have hL1 : RL (b + 1) (wc c1 804 0 0 1) m1 := by
    intro w' hw'
    obtain ⟨⟨z1, z2, z3, z4, z5, z6⟩, ⟨y1, y2, y3, y4, y5, y6⟩⟩ := hR.L w' hw'
    refine ⟨⟨?_, ?_, ?_, ?_, ?_, fun k hk => ?_⟩, ⟨?_, ?_, ?_, ?_, ?_, fun t' r ht' hr => ?_⟩⟩
    · rw [nC1 400 (by decide)]; exact z1
    · rw [nC1 401 (by decide)]; exact z2
    · rw [x2, ← hm1]
      simp only [wc_at, wm_at]
      by_cases ew : w' = w
      · simp [ew]
      · simp [ew, z3, show ¬ (2 * w' = 2 * w) by omega]
    · rw [← hm1]; simp only [wm_at]
      by_cases ew : w' = w
      · simp [ew]; omega
      · simp [ew]; omega
    · rw [← hm1]; simp only [wm_at]
      by_cases ew : w' = w
      · simp [ew]; omega
      · simp [ew]; omega
    · rw [x2, ← hm1]
      simp only [wc_at, wm_at]
      by_cases ew : w' = w
      · subst ew
        by_cases k0 : k = 5 * t
        · subst k0; simp
        · by_cases k1 : k = 5 * t + 1
          · subst k1; simp; rw [show 200 * w' + (5 * t + 1) = 200 * w' + 5 * t + 1 by omega]; simp
          · by_cases k2 : k = 5 * t + 2
            · subst k2; simp; rw [show 200 * w' + (5 * t + 2) = 200 * w' + 5 * t + 2 by omega]; simp
            · by_cases k3 : k = 5 * t + 3
              · subst k3; simp; rw [show 200 * w' + (5 * t + 3) = 200 * w' + 5 * t + 3 by omega]; simp
              · by_cases k4 : k = 5 * t + 4
                · subst k4; simp; rw [show 200 * w' + (5 * t + 4) = 200 * w' + 5 * t + 4 by omega]; simp
                · rw [if_neg (by omega), if_neg (by omega), if_neg (by omega), if_neg (by omega), if_neg (by omega), if_neg (by omega), if_neg (by omega), if_neg (by omega), if_neg (by omega), if_neg (by omega), if_neg (by omega), if_neg (by omega), if_neg (by omega), if_neg (by omega), if_neg (by omega)]
                  exact z6 k hk
      · rw [if_neg (by omega), if_neg (by omega), if_neg (by omega), if_neg (by omega), if_neg (by omega), if_neg (by omega), if_neg (by omega), if_neg (by omega), if_neg (by omega), if_neg (by omega), if_neg (by omega), if_neg (by omega), if_neg (by omega), if_neg (by omega), if_neg (by omega)]
        exact z6 k hk
    · rw [nC1 400 (by decide)]; exact y1
    · rw [nC1 401 (by decide)]; exact y2
    · rw [x2, nM1 40 (by decide)]; simp only [wc_at]
      rw [if_neg (by omega), if_neg (by omega), if_neg (by omega), if_neg (by omega), if_neg (by omega), if_neg (by omega), if_neg (by omega)]
      exact y3
    · rw [nM1 40 (by decide)]; exact y4
    · rw [nM1 40 (by decide)]; omega
    · rw [x2, nM1 41 (by decide)]; simp only [wc_at]
      rw [if_neg (by omega), if_neg (by omega), if_neg (by omega), if_neg (by omega), if_neg (by omega), if_neg (by omega), if_neg (by omega)]
      exact y6 t' r ht' hr
  have hA1 : RA (wc c1 804 0 0 1) m1 := by
    obtain ⟨a1, a2, a3, a4, a5, a6, a7, a8, a9, a10⟩ := hA
    rw [x2, ← hm1]
    have pc := p_w_c (m 102 0 + 1)
    refine ⟨by simp [wc_at, wm_at, a1], by simp [wm_at, a2], by simp [wm_at, a3], by simp [wc_at, wm_at, a4], by simp [wm_at]; exact pc, by simp [wc_at, wm_at, a6], by simp [wm_at, a7], by simp [wm_at, a8], fun k => by simp [wc_at, wm_at, a9], fun w hw => by simp [wc_at, a10 w hw]⟩
  have hR1 : RR (b + 1) (wc c1 804 0 0 1) m1 := (RR.gen [2005, 403, 804] [43, 42, 102, 172] (hR.more (Nat.le_succ b)) nC1 nM1 (Or.inr hA1) (Or.inl ⟨rfl, rfl⟩) (Or.inl ⟨rfl, rfl⟩) (Or.inl ⟨rfl, rfl⟩) (Or.inl ⟨rfl, rfl⟩) (Or.inr hL1) (Or.inl ⟨rfl, rfl⟩) (Or.inl ⟨rfl, rfl⟩) (Or.inl ⟨rfl, rfl⟩) (Or.inl ⟨rfl, rfl⟩) (Or.inl ⟨rfl, rfl⟩) (Or.inl ⟨rfl, rfl⟩))
  have hZ1 : ZZ (b + 1) (wc c1 804 0 0 1) m1 w F L := by
    refine ⟨hR1, ⟨hw, ?_, ?_, ?_, ?_, ?_⟩, ?_, ?_, ?_, ?_⟩
    · rw [nM1 100 (by decide)]; exact e1
    · rw [nC1 5000 (by decide)]; exact e2
    · rw [nC1 5001 (by decide)]; exact e3
    · rw [nC1 5002 (by decide)]; exact e4
    · rw [nC1 5003 (by decide)]; exact e5
    · unfold MV
      rw [nC1 101 (by decide), nC1 108 (by decide), nM1 36 (by decide)]; exact hMV
    · rcases hg with ⟨_, z2⟩ | ⟨z1, _, z3⟩
      · exact Or.inl (by rw [nM1 171 (by decide)]; exact z2)
      · have h172 : 0 ≤ m 172 0 ∧ m 172 0 ≤ (b : Int) := by rcases hFD with z | ⟨_, z⟩ | ⟨_, z, z'⟩ <;> omega
        have e172 : m1 172 0 = m 172 0 + 1 := by
          rw [← hm1, wm_at, if_pos ⟨rfl, rfl⟩, p_w1 (by omega) (by omega)]
        refine Or.inr (Or.inr ⟨by simp [wc_at], ?_, ?_⟩)
        · rw [e172]; omega
        · rw [e172]; omega
    · rw [nC1 607 (by decide)]; exact hF
    · rw [← hm1]; simp [wm_at]
      rw [hFC, p_wadd]
      congr 1
      omega
  rcases hg with ⟨z1, z2⟩ | ⟨z1, z2, z3⟩
  · simp only [if_pos z1] at hfind hadd ⊢
    exact ⟨wc c1 804 0 0 1, m1, hadd, hfind, hZ1, nC1.up (by decide), nM1.up (by decide), by simp [wc_at]⟩
  · simp only [if_neg (show ¬ g = -1 by omega)] at hfind hadd ⊢
    obtain ⟨n, rfl⟩ : ∃ n : Nat, g = (n : Int) := ⟨g.toNat, by omega⟩
    rw [Int.toNat_natCast] at hfind hadd
    have a7 := (hR.G.1 (40 * w + n)).1.2.2.2.2.2.2.1
    have r20 : m1 20 (40 * w + n) = m 20 (40 * w + n) := by rw [nM1 20 (by decide)]
    rw [r20, ← a7] at hfind
    refine ⟨_, _, hadd, hfind, ?_, (nC1.up (by decide)).wc (by decide) _ _ _, (nM1.up (by decide)).wm (by decide) _ _, by simp [wc_at]⟩
    exact hZ1.ofE (lc := [12]) (lm := [20]) (Nat.le_refl _) (hR1.f12 (40 * w + n) _) (by repeat first | exact eC.rf _ _ | refine eC.wc ?_ (by decide) _ _ _ | refine eC.sr ?_ (by decide) _ _) (by repeat first | exact eM.rf _ _ | refine eM.wm ?_ (by decide) _ _) rfl rfl
