/-! ===== the class goes back to a kept state ===== -/
def gbL : List Nat := [6, 7, 8, 9, 10, 11, 12, 13, 14, 15, 16, 2012]
theorem s_gback {j : Nat} (hj : vG j) {x : Nat} (hx : x < 30) (c : h_C) (h7 : c 2013 j (11 * x + 1) = 0 ∨ c 2013 j (11 * x + 1) = 1) : ∃ c', G_Gear_goBack j (x : Int) c = some c' ∧ eC gbL c c' ∧ (∀ f i, i ≠ j → c' f i = c f i) ∧ (gfl c' j = [c 2013 j (11 * x), c 2013 j (11 * x + 1), c 2013 j (11 * x + 2), c 2013 j (11 * x + 3), c 2013 j (11 * x + 4), c 2013 j (11 * x + 5), c 2013 j (11 * x + 6), c 2013 j (11 * x + 7), c 2013 j (11 * x + 8), c 2013 j (11 * x + 9), c 2013 j (11 * x + 10)]) ∧ (∀ k, k < 8 → c' 2012 j k = 0) := by
  have e0 : p_w (11 * (x : Int)) = ((11 * x : Nat) : Int) := by rw [p_w1 (by omega) (by omega)]; omega
  have ek : ∀ t : Nat, t < 11 → p_w (((11 * x : Nat) : Int) + (t : Int)) = ((11 * x + t : Nat) : Int) := fun t ht => by rw [p_w1 (by omega) (by omega)]; omega
  have e1 := ek 1 (by omega)
  have e2 := ek 2 (by omega)
  have e3 := ek 3 (by omega)
  have e4 := ek 4 (by omega)
  have e5 := ek 5 (by omega)
  have e6 := ek 6 (by omega)
  have e7 := ek 7 (by omega)
  have e8 := ek 8 (by omega)
  have e9 := ek 9 (by omega)
  have e10 := ek 10 (by omega)
  generalize hcc : wc (wc (wc (wc (wc (wc (wc (wc (wc (wc (wc c 6 j 0 (c 2013 j (11 * x))) 7 j 0 (c 2013 j (11 * x + 1))) 8 j 0 (c 2013 j (11 * x + 2))) 9 j 0 (c 2013 j (11 * x + 3))) 10 j 0 (c 2013 j (11 * x + 4))) 11 j 0 (c 2013 j (11 * x + 5))) 12 j 0 (c 2013 j (11 * x + 6))) 13 j 0 (c 2013 j (11 * x + 7))) 14 j 0 (c 2013 j (11 * x + 8))) 15 j 0 (c 2013 j (11 * x + 9))) 16 j 0 (c 2013 j (11 * x + 10)) = cc
  have key : ∀ v : Int, v = c 2013 j (11 * x + 1) → (v = 0 ∨ v = 1) → GB_Gear_goBack_33 j ((11 * x : Nat) : Int) v j (wc c 6 j 0 (c 2013 j (11 * x))) = some (sr cc 2012 j (fl (cc 2012 j) 8 0)) := fun v hv hv' => by
    unfold GB_Gear_goBack_33
    rw [show (2 : Int) = ((2 : Nat) : Int) from rfl, show (3 : Int) = ((3 : Nat) : Int) from rfl, show (4 : Int) = ((4 : Nat) : Int) from rfl, show (5 : Int) = ((5 : Nat) : Int) from rfl, show (6 : Int) = ((6 : Nat) : Int) from rfl, show (7 : Int) = ((7 : Nat) : Int) from rfl, show (8 : Int) = ((8 : Nat) : Int) from rfl, show (9 : Int) = ((9 : Nat) : Int) from rfl, show (10 : Int) = ((10 : Nat) : Int) from rfl, e2, e3, e4, e5, e6, e7, e8, e9, e10]
    simp (discharger := omega) only [gd1 hj, gd1 hv', gd1, bi1, Int.toNat_natCast, wc_ne]
    rw [hv, hcc]
  have nn : eC [6, 7, 8, 9, 10, 11, 12, 13, 14, 15, 16] c cc := by rw [← hcc]; exact (by repeat first | exact eC.rf _ _ | refine eC.wc ?_ (by decide) _ _ _ | refine eC.sr ?_ (by decide) _ _)
  refine ⟨sr cc 2012 j (fl (cc 2012 j) 8 0), ?_, (nn.up (by decide)).tr (eC.up (l := [2012]) (by repeat first | exact eC.rf _ _ | refine eC.wc ?_ (by decide) _ _ _ | refine eC.sr ?_ (by decide) _ _) (by decide)), fun f i hi => ?_, ?_, fun k hk => ?_⟩
  · unfold G_Gear_goBack
    rw [e0, bi1, gd1 hj, gd1 (by omega), Int.toNat_natCast, bi1, show p_w (((11 * x : Nat) : Int) + 1) = ((11 * x + 1 : Nat) : Int) from e1, gd1 (by omega), Int.toNat_natCast, wc_ne (by decide)]
    rcases h7 with h | h
    · rw [if_pos (by omega), key 0 h.symm (Or.inl rfl)]
    · rw [if_neg (by omega), key 1 h.symm (Or.inr rfl)]
  · funext k
    rw [sr_at, if_neg (fun z => hi z.2), ← hcc]
    simp [wc_at, hi]
  · unfold gfl
    simp only [sr_at, ← hcc]
    simp [wc_at]
  · rw [sr_at, if_pos ⟨rfl, rfl⟩, fl_at, if_pos hk]
theorem s_gbacks {w x : Nat} (hw : w < 3) (hx : x < 30) {G : Nat} (hG : G ≤ 40) : ∀ (d g fu : Nat) (c : h_C), g + d = G → d < fu → (∀ g', g ≤ g' → g' < G → c 2013 (40 * w + g' + 1) (11 * x + 1) = 0 ∨ c 2013 (40 * w + g' + 1) (11 * x + 1) = 1) → ∃ c', GO_State_goBack_71 fu w (x : Int) (G : Int) (g : Int) c = GO_State_goBack_97 3000 w (x : Int) 1 c' ∧ eC gbL c c' ∧ (∀ f i, (i ≤ 40 * w + g ∨ 40 * w + G < i) → c' f i = c f i) ∧ (∀ g' t, g ≤ g' → g' < G → t < 11 → (gfl c' (40 * w + g' + 1)).getD t 0 = c 2013 (40 * w + g' + 1) (11 * x + t)) ∧ (∀ g' k, g ≤ g' → g' < G → k < 8 → c' 2012 (40 * w + g' + 1) k = 0) := by
  intro d
  induction d with
  | zero =>
    intro g fu c hd hf h7
    obtain ⟨fu, rfl⟩ : ∃ g, fu = g + 1 := ⟨fu - 1, by omega⟩
    refine ⟨c, ?_, eC.rf _ _, fun _ _ _ => rfl, fun g' t h1 h2 => by omega, fun g' t h1 h2 => by omega⟩
    show GL_State_goBack_71 _ _ _ _ _ c = _
    unfold GL_State_goBack_71
    rw [if_pos (by omega)]
  | succ d ih =>
    intro g fu c hd hf h7
    obtain ⟨fu, rfl⟩ : ∃ g, fu = g + 1 := ⟨fu - 1, by omega⟩
    have hj : vG (40 * w + g + 1) := ⟨by omega, by omega⟩
    obtain ⟨c1, x1, x2, x3, x4, x5⟩ := s_gback hj hx c (h7 g (by omega) (by omega))
    obtain ⟨c', y1, y2, y3, y4, y5⟩ := ih (g + 1) fu c1 (by omega) (by omega) (fun g' z1 z2 => by rw [x2 2013 (by decide)]; exact h7 g' (by omega) z2)
    refine ⟨c', ?_, x2.tr y2, fun f i h => ?_, fun g' t h1 h2 h3 => ?_, fun g' k h1 h2 h3 => ?_⟩
    · rw [← y1]
      show GL_State_goBack_71 _ _ _ _ _ c = _
      unfold GL_State_goBack_71
      rw [if_neg (by omega), gd1 hw, gd1 (by omega), Int.toNat_natCast, x1, q_some, p_w1 (by omega) (by omega)]
      rfl
    · rw [y3 f i (by omega), x3 f i (by omega)]
    · by_cases e : g' = g
      · subst e
        have : gfl c' (40 * w + g' + 1) = gfl c1 (40 * w + g' + 1) := by
          unfold gfl
          simp only [y3 _ (40 * w + g' + 1) (by omega)]
        rw [this, x4]
        match t, h3 with
        | 0, _ => rfl
        | 1, _ => rfl
        | 2, _ => rfl
        | 3, _ => rfl
        | 4, _ => rfl
        | 5, _ => rfl
        | 6, _ => rfl
        | 7, _ => rfl
        | 8, _ => rfl
        | 9, _ => rfl
        | 10, _ => rfl
      · rw [y4 g' t (by omega) h2 h3, x2 2013 (by decide)]
    · by_cases e : g' = g
      · subst e
        rw [y3 2012 (40 * w + g' + 1) (by omega)]
        exact x5 k h3
      · exact y5 g' k (by omega) h2 h3
def pbL : List Nat := [101, 102, 103, 104, 105, 106, 107, 109, 111, 2014, 2015]
/-- a parcel's place gone back to ring place x -/
def PB (c c' : h_C) (v x : Nat) : Prop := c' 101 v 0 = c 2016 v (37 * x) ∧ (c 2016 v (37 * x) ≠ 0 → (∀ t, t < 9 → (pfl c' v).getD t 0 = c 2016 v (37 * x + t)) ∧ (∀ k, k < 16 → c' 2014 v k = c 2016 v (37 * x + 9 + k)) ∧ (∀ k, k < 12 → c' 2015 v k = c 2016 v (37 * x + 25 + k)))
theorem s_pback {v : Nat} (hv : vP v) {x : Nat} (hx : x < 30) (c : h_C) (h6 : c 2016 v (37 * x) ≠ 0 → c 2016 v (37 * x + 6) = 0 ∨ c 2016 v (37 * x + 6) = 1) : ∃ c', G_Parcel_goBack v (x : Int) c = some c' ∧ eC pbL c c' ∧ (∀ f i, i ≠ v → c' f i = c f i) ∧ PB c c' v x := by
  have e0 : p_w (37 * (x : Int)) = ((37 * x : Nat) : Int) := by rw [p_w1 (by omega) (by omega)]; omega
  have ek : ∀ t : Nat, t < 37 → p_w (((37 * x : Nat) : Int) + (t : Int)) = ((37 * x + t : Nat) : Int) := fun t ht => by rw [p_w1 (by omega) (by omega)]; omega
  by_cases h0 : c 2016 v (37 * x) = 0
  · refine ⟨wc c 101 v 0 (c 2016 v (37 * x)), ?_, eC.up (l := [101]) (by repeat first | exact eC.rf _ _ | refine eC.wc ?_ (by decide) _ _ _ | refine eC.sr ?_ (by decide) _ _) (by decide), fun f i hi => by funext k; rw [wc_at, if_neg (fun z => hi z.2.1)], by simp [wc_at], fun h => absurd h0 h⟩
    unfold G_Parcel_goBack
    rw [e0, bi1, gd1 hv, gd1 (by omega), Int.toNat_natCast, bi1, if_neg (by simp [wc_at, h0])]
  · have e1 := ek 1 (by omega)
    have e2 := ek 2 (by omega)
    have e3 := ek 3 (by omega)
    have e4 := ek 4 (by omega)
    have e5 := ek 5 (by omega)
    have e6 := ek 6 (by omega)
    have e7 := ek 7 (by omega)
    have e8 := ek 8 (by omega)
    have e9 := ek 9 (by omega)
    have e25 := ek 25 (by omega)
    generalize hcc : wc (wc (wc (wc (wc (wc (wc (wc (wc c 101 v 0 (c 2016 v (37 * x))) 102 v 0 (c 2016 v (37 * x + 1))) 103 v 0 (c 2016 v (37 * x + 2))) 104 v 0 (c 2016 v (37 * x + 3))) 105 v 0 (c 2016 v (37 * x + 4))) 106 v 0 (c 2016 v (37 * x + 5))) 107 v 0 (c 2016 v (37 * x + 6))) 109 v 0 (c 2016 v (37 * x + 7))) 111 v 0 (c 2016 v (37 * x + 8)) = cc
    have nn : eC [101, 102, 103, 104, 105, 106, 107, 109, 111] c cc := by rw [← hcc]; exact (by repeat first | exact eC.rf _ _ | refine eC.wc ?_ (by decide) _ _ _ | refine eC.sr ?_ (by decide) _ _)
    have hC : G_Parcel_goBack v (x : Int) c = some (sr (sr cc 2014 v (cp (c 2016 v) (37 * x + 9) (c 2014 v) 0 16)) 2015 v (cp (c 2016 v) (37 * x + 25) (c 2015 v) 0 12)) := by
      have r1 : (sr cc 2014 v (cp (c 2016 v) (37 * x + 9) (c 2014 v) 0 16)) 2016 v = c 2016 v := by
        funext k
        rw [sr_ne (by decide), nn 2016 (by decide)]
      have r2 : (sr cc 2014 v (cp (c 2016 v) (37 * x + 9) (c 2014 v) 0 16)) 2015 v = c 2015 v := by
        funext k
        rw [sr_ne (by decide), nn 2015 (by decide)]
      have key : ∀ u : Int, u = c 2016 v (37 * x + 6) → (u = 0 ∨ u = 1) → GB_Parcel_goBack_102 v ((37 * x : Nat) : Int) u v (wc (wc (wc (wc (wc (wc c 101 v 0 (c 2016 v (37 * x))) 102 v 0 (c 2016 v (37 * x + 1))) 103 v 0 (c 2016 v (37 * x + 2))) 104 v 0 (c 2016 v (37 * x + 3))) 105 v 0 (c 2016 v (37 * x + 4))) 106 v 0 (c 2016 v (37 * x + 5))) = some (sr (sr cc 2014 v (cp (c 2016 v) (37 * x + 9) (c 2014 v) 0 16)) 2015 v (cp (c 2016 v) (37 * x + 25) (c 2015 v) 0 12)) := fun u hu hu' => by
        unfold GB_Parcel_goBack_102
        rw [show (7 : Int) = ((7 : Nat) : Int) from rfl, show (8 : Int) = ((8 : Nat) : Int) from rfl, show (9 : Int) = ((9 : Nat) : Int) from rfl, show (25 : Int) = ((25 : Nat) : Int) from rfl, e7, e8, e9, e25]
        simp (discharger := omega) only [gd1 hv, gd1 hu', gd1, bi1, Int.toNat_natCast, wc_ne]
        rw [hu, hcc, show cc 2016 v = c 2016 v by rw [nn 2016 (by decide)], show cc 2014 v = c 2014 v by rw [nn 2014 (by decide)]]
        show some (sr (sr cc 2014 v (cp (c 2016 v) (37 * x + 9) (c 2014 v) 0 16)) 2015 v (cp ((sr cc 2014 v (cp (c 2016 v) (37 * x + 9) (c 2014 v) 0 16)) 2016 v) (37 * x + 25) ((sr cc 2014 v (cp (c 2016 v) (37 * x + 9) (c 2014 v) 0 16)) 2015 v) 0 12)) = _
        rw [r1, r2]
      unfold G_Parcel_goBack
      rw [e0, bi1, gd1 hv, gd1 (by omega), Int.toNat_natCast, bi1, if_pos (by simp [wc_at, h0])]
      rw [show (2 : Int) = ((2 : Nat) : Int) from rfl, show (3 : Int) = ((3 : Nat) : Int) from rfl, show (4 : Int) = ((4 : Nat) : Int) from rfl, show (5 : Int) = ((5 : Nat) : Int) from rfl, show (6 : Int) = ((6 : Nat) : Int) from rfl, show p_w (((37 * x : Nat) : Int) + 1) = ((37 * x + 1 : Nat) : Int) from e1, e2, e3, e4, e5, e6]
      simp (discharger := omega) only [gd1, bi1, Int.toNat_natCast, wc_ne]
      rcases h6 h0 with h | h
      · rw [if_pos (by omega), key 0 h.symm (Or.inl rfl)]
      · rw [if_neg (by omega), key 1 h.symm (Or.inr rfl)]
    refine ⟨_, hC, (nn.up (by decide)).tr (eC.up (l := [2014, 2015]) (by repeat first | exact eC.rf _ _ | refine eC.wc ?_ (by decide) _ _ _ | refine eC.sr ?_ (by decide) _ _) (by decide)), fun f i hi => ?_, ?_, fun _ => ⟨fun t ht => ?_, fun k hk => ?_, fun k hk => ?_⟩⟩
    · funext k
      rw [sr_at, if_neg (fun z => hi z.2), sr_at, if_neg (fun z => hi z.2), ← hcc]
      simp [wc_at, hi]
    · rw [sr_ne (by decide), sr_ne (by decide), ← hcc]
      simp [wc_at]
    · have : pfl (sr (sr cc 2014 v (cp (c 2016 v) (37 * x + 9) (c 2014 v) 0 16)) 2015 v (cp (c 2016 v) (37 * x + 25) (c 2015 v) 0 12)) v = [c 2016 v (37 * x), c 2016 v (37 * x + 1), c 2016 v (37 * x + 2), c 2016 v (37 * x + 3), c 2016 v (37 * x + 4), c 2016 v (37 * x + 5), c 2016 v (37 * x + 6), c 2016 v (37 * x + 7), c 2016 v (37 * x + 8)] := by
        unfold pfl
        simp only [sr_at, ← hcc]
        simp [wc_at]
      rw [this]
      match t, ht with
      | 0, _ => rfl
      | 1, _ => rfl
      | 2, _ => rfl
      | 3, _ => rfl
      | 4, _ => rfl
      | 5, _ => rfl
      | 6, _ => rfl
      | 7, _ => rfl
      | 8, _ => rfl
    · rw [sr_ne (by decide), sr_at, if_pos ⟨rfl, rfl⟩, cp_at, if_pos (by omega), Nat.sub_zero]
    · rw [sr_at, if_pos ⟨rfl, rfl⟩, cp_at, if_pos (by omega), Nat.sub_zero]
