/-! ===== a parcel by its number ===== -/
theorem s_find1 {w : Nat} (hw : w < 3) {c : h_C} {v : Int} : ∀ (d p fu : Nat), p + d = 31 → 1 ≤ p → d < fu → (∀ pl : Nat, p ≤ pl → pl ≤ 30 → c 101 (31 * w + pl) 0 ≠ v) → GO_State_find_9 fu w v (p : Int) c = some 0 := by
  intro d
  induction d with
  | zero =>
    intro p fu hp h1 hf hn
    obtain ⟨fu, rfl⟩ : ∃ g, fu = g + 1 := ⟨fu - 1, by omega⟩
    show GL_State_find_9 _ _ _ _ c = _
    unfold GL_State_find_9
    exact ifT (by omega) rfl
  | succ d ih =>
    intro p fu hp h1 hf hn
    obtain ⟨fu, rfl⟩ : ∃ g, fu = g + 1 := ⟨fu - 1, by omega⟩
    show GL_State_find_9 _ _ _ _ c = _
    unfold GL_State_find_9
    simp (discharger := omega) only [gd1, bi1, p_w1, Int.toNat_natCast]
    rw [if_neg (by omega), if_pos (hn p (by omega) (by omega)), show (p : Int) + 1 = ((p + 1 : Nat) : Int) by omega]
    exact ih (p + 1) fu (by omega) (by omega) (by omega) (fun pl a b => hn pl (by omega) b)
theorem s_find2 {w : Nat} (hw : w < 3) {c : h_C} {v : Int} {pl : Nat} (h30 : pl ≤ 30) (e : c 101 (31 * w + pl) 0 = v) : ∀ (d p fu : Nat), p + d = pl → 1 ≤ p → d < fu → (∀ p' : Nat, p ≤ p' → p' < pl → c 101 (31 * w + p') 0 ≠ v) → GO_State_find_9 fu w v (p : Int) c = some (31 * w + pl) := by
  intro d
  induction d with
  | zero =>
    intro p fu hp h1 hf hn
    obtain ⟨fu, rfl⟩ : ∃ g, fu = g + 1 := ⟨fu - 1, by omega⟩
    obtain rfl : p = pl := by omega
    show GL_State_find_9 _ _ _ _ c = _
    unfold GL_State_find_9
    simp (discharger := omega) only [gd1, bi1, p_w1, Int.toNat_natCast]
    rw [if_neg (by omega), if_neg (by simp [e])]
  | succ d ih =>
    intro p fu hp h1 hf hn
    obtain ⟨fu, rfl⟩ : ∃ g, fu = g + 1 := ⟨fu - 1, by omega⟩
    show GL_State_find_9 _ _ _ _ c = _
    unfold GL_State_find_9
    simp (discharger := omega) only [gd1, bi1, p_w1, Int.toNat_natCast]
    rw [if_neg (by omega), if_pos (hn p (by omega) (by omega)), show (p : Int) + 1 = ((p + 1 : Nat) : Int) by omega]
    exact ih (p + 1) fu (by omega) (by omega) (by omega) (fun pl a b => hn pl (by omega) b)
theorem RR.uniq {b : Nat} {c : h_C} {m : h_M} (h : RR b c m) {w pl pl' q : Nat} (hw : w < 3) (a1 : 1 ≤ pl) (a2 : pl ≤ 30) (b1 : 1 ≤ pl') (b2 : pl' ≤ 30) (hq : 1 ≤ q) (e : c 101 (31 * w + pl) 0 = (q : Int)) (e' : c 101 (31 * w + pl') 0 = (q : Int)) : pl = pl' := by
  rcases h.P.2.2.1 w pl hw a1 a2 with z | ⟨q1, y, ⟨_, g, k, _, _, _, _, _, _, x1, x2, x3⟩, _⟩
  · omega
  · rcases h.P.2.2.1 w pl' hw b1 b2 with z' | ⟨q2, y', ⟨_, g', k', _, _, _, _, _, _, x1', x2', x3'⟩, _⟩
    · omega
    · have e1 : q1 = q := by omega
      have e2 : q2 = q := by omega
      subst e1
      subst e2
      have : g = g' := by omega
      have : k = k' := by omega
      subst_vars
      omega
theorem RR.find {b : Nat} {c : h_C} {m : h_M} (h : RR b c m) {w : Nat} (hw : w < 3) (e1 : m 100 0 = (w : Int)) (v : Int) : (∃ pl q : Nat, v = (q : Int) ∧ 1 ≤ pl ∧ pl ≤ 30 ∧ c 101 (31 * w + pl) 0 = (q : Int) ∧ PO b c m w pl q ∧ G_State_find w v c = some (31 * w + pl) ∧ G_Mo_noParcel v m = some 0) ∨ (G_State_find w v c = some 0 ∧ G_Mo_noParcel v m = some 1) := by
  by_cases hx : ∃ pl : Nat, 1 ≤ pl ∧ pl ≤ 30 ∧ c 101 (31 * w + pl) 0 = v ∧ 1 ≤ v
  · obtain ⟨pl, p1, p30, ep, hv⟩ := hx
    rcases h.P.2.2.1 w pl hw p1 p30 with z | ⟨q, y, hp⟩
    · omega
    · obtain rfl : v = (q : Int) := by omega
      refine Or.inl ⟨pl, q, rfl, p1, p30, ep, hp, ?_, ?_⟩
      · unfold G_State_find
        refine ifT (by omega) ?_
        exact s_find2 hw p30 ep (pl - 1) 1 3000 (by omega) (by omega) (by omega) (fun p' a a' z => by
          have := h.uniq hw (by omega) (by omega) p1 p30 (by omega) z ep
          omega)
      · obtain ⟨⟨⟨q1, q2, q3, q4⟩, _⟩, _⟩ := hp
        have := h.N.2.2.1
        unfold G_Mo_noParcel
        rw [s_beyond0 m (by omega), q_some]
        refine ifF (by decide) (gdT (by omega) ?_)
        rw [Int.toNat_natCast, e1]
        exact ifF (by simp [q4]) (ifT q3 rfl)
  · refine Or.inr ⟨?_, ?_⟩
    · unfold G_State_find
      by_cases hv : 1 ≤ v
      · exact ifT hv (s_find1 hw 30 1 3000 (by omega) (by omega) (by omega) (fun pl a a' z => hx ⟨pl, a, a', z, hv⟩))
      · exact ifF hv rfl
    · unfold G_Mo_noParcel GB_Mo_noParcel_37
      by_cases hb : 1 ≤ v ∧ v ≤ m 123 0
      · obtain ⟨q, rfl⟩ : ∃ q : Nat, v = (q : Int) := ⟨v.toNat, by omega⟩
        have := h.N.2.2.1
        rw [s_beyond0 m hb, q_some]
        refine ifF (by decide) (gdT (by omega) ?_)
        rw [Int.toNat_natCast, e1]
        by_cases h25 : m 25 q = 1
        · refine ifF (by simp [h25]) (ifF (fun z => ?_) rfl)
          obtain ⟨pl, a, a', z'⟩ := h.P.2.2.2.1 w q hw (by omega) (by omega) z h25
          exact hx ⟨pl, a, a', z', by omega⟩
        · exact ifT h25 rfl
      · rw [s_beyond1 m hb, q_some]
        exact ifT (by decide) rfl
/-! ===== what is told ===== -/
def PP (x y : Option Int) : Prop := ∃ r, x = some r ∧ y = some r
theorem PP.mk {x y : Option Int} (r : Int) (h1 : x = some r) (h2 : y = some r) : PP x y := ⟨r, h1, h2⟩
theorem PP.rf (r : Int) : PP (some r) (some r) := ⟨r, rfl, rfl⟩
theorem pr_status {b : Nat} {c : h_C} {m : h_M} (h : RR b c m) : PP (G_SW_status c) (G_Mo_status m) := ⟨m 101 0, by unfold G_SW_status; rw [h.A.2.2.2.1], rfl⟩
theorem s_tell {b : Nat} {c : h_C} {m : h_M} (h : RR b c m) {w g : Nat} (hw : w < 3) (e1 : m 100 0 = (w : Int)) (hg : (g : Int) < m 3 w) (v2 : Int) : PP (G_Gear_tell (40 * w + g + 1) v2 c) (G_Mo_told (g : Int) v2 m) := by
  obtain ⟨g40, i120, hj, eK, k0, k10, eL, l0, l8, lt, ln⟩ := h.gr hw hg
  obtain ⟨⟨a1, a2, a3, a4, a5, a6, a7, a8, a9, a10⟩, ⟨b1, b2⟩, b3, b4, b5, b6, _⟩ := h.G.1 (40 * w + g)
  obtain ⟨n1, n2, n3, n4, n5⟩ := (h.G.2 w g hw g40).1 hg
  have t12 : (sw_tl 2 : Int) = 11 := rfl
  unfold G_Gear_tell G_Mo_told G_Mo_toldMore
  have hv : v2 = 0 ∨ v2 = 1 ∨ v2 = 2 ∨ v2 = 3 ∨ v2 = 4 ∨ v2 = 5 ∨ v2 = 6 ∨ v2 = 7 ∨ v2 = 8 ∨ v2 = 9 ∨ v2 = 10 ∨ v2 = 11 ∨ v2 = 12 ∨ v2 = 13 ∨ v2 = 14 ∨ v2 = 15 ∨ (v2 < 0 ∨ 15 < v2) := by omega
  rcases hv with rfl | rfl | rfl | rfl | rfl | rfl | rfl | rfl | rfl | rfl | rfl | rfl | rfl | rfl | rfl | rfl | hv
  case inr.inr.inr.inr.inr.inr.inr.inr.inr.inr.inr.inr.inr.inr.inr.inr =>
    simp only [show ¬ v2 = 0 by omega, show ¬ v2 = 1 by omega, show ¬ v2 = 2 by omega, show ¬ v2 = 3 by omega, show ¬ v2 = 4 by omega, show ¬ v2 = 5 by omega, show ¬ v2 = 6 by omega, show ¬ v2 = 7 by omega, show ¬ v2 = 8 by omega, show ¬ v2 = 9 by omega, show ¬ v2 = 10 by omega, show ¬ v2 = 11 by omega, show ¬ v2 = 12 by omega, show ¬ v2 = 13 by omega, show ¬ v2 = 14 by omega, show ¬ v2 = 15 by omega, s_noGear hw h.F e1, s_g hw e1 g40, if_pos (show 0 ≤ (g : Int) ∧ (g : Int) < m 3 w by omega), q_some, gd1 hj, gd1 (show 0 ≤ ((40 * w + g : Nat) : Int) ∧ ((40 * w + g : Nat) : Int) < 120 by omega), Int.toNat_natCast, eK, eL, a1, a2, a3, a4, a5, a6, a7, a8, a9, a10, n1, n4, s_parcels h hw hg, s_load i120 l0 l8, s_mTaker, s_mPace, tab2 k0 k10, t12, gd1 (show 0 ≤ m 5 (40 * w + g) ∧ m 5 (40 * w + g) < 11 by omega), ↓reduceIte, ne_eq, if_true, if_false]
    exact PP.rf _
  all_goals simp only [s_noGear hw h.F e1, s_g hw e1 g40, if_pos (show 0 ≤ (g : Int) ∧ (g : Int) < m 3 w by omega), q_some, gd1 hj, gd1 (show 0 ≤ ((40 * w + g : Nat) : Int) ∧ ((40 * w + g : Nat) : Int) < 120 by omega), Int.toNat_natCast, eK, eL, a1, a2, a3, a4, a5, a6, a7, a8, a9, a10, n1, n4, s_parcels h hw hg, s_load i120 l0 l8, s_mTaker, s_mPace, tab2 k0 k10, t12, gd1 (show 0 ≤ m 5 (40 * w + g) ∧ m 5 (40 * w + g) < 11 by omega), ↓reduceIte, ne_eq, if_true, if_false]
  all_goals try exact PP.rf _
  · repeat' split
    all_goals first | exact PP.rf _ | (exfalso; omega) | (rw [show m 10 (40 * w + g) = 0 by omega]; exact PP.rf _)
  · by_cases hk : m 5 (40 * w + g) < 9
    · simp only [(b5 hk).1, hk, if_true]
      exact PP.rf _
    · simp only [b6 (by omega), hk, if_false]
      exact PP.rf _
  · refine ⟨if m 7 (40 * w + g) = -1 then -9 else m 7 (40 * w + g), ?_, ?_⟩
    · simp
      split <;> rfl
    · simp
      split
      · rw [if_neg (by omega)]
        rfl
      · rw [if_pos (by omega)]
        rfl
theorem pr_told {b : Nat} {c : h_C} {m : h_M} (h : RR b c m) (v1 v2 : Int) : PP (G_SW_told v1 v2 c) (G_Mo_told v1 v2 m) := by
  obtain ⟨w, hw, e1, e2⟩ := h.w
  by_cases hg : 0 ≤ v1 ∧ v1 < m 3 w
  case neg =>
    refine ⟨-1, ?_, ?_⟩
    · unfold G_SW_told
      simp only [e2, Int.toNat_natCast, s_gearOf0 hw h.F hg, q_some]
      exact gdT (by omega) (ifF (by simp) rfl)
    · unfold G_Mo_told
      simp only [s_noGear hw h.F e1, if_neg hg, q_some]
      exact ifF (by decide) rfl
  obtain ⟨g, rfl⟩ : ∃ g : Nat, v1 = (g : Int) := ⟨v1.toNat, by omega⟩
  obtain ⟨g40, i120, hj, eK, k0, k10, eL, l0, l8, lt, ln⟩ := h.gr hw hg.2
  obtain ⟨r, x1, x2⟩ := s_tell h hw e1 hg.2 v2
  refine ⟨r, ?_, x2⟩
  unfold G_SW_told
  simp (discharger := omega) only [e2, Int.toNat_natCast, s_gearOf hw h.F hg.2, q_some, gd1, x1]
  simp
theorem s_inSlot {b : Nat} {c : h_C} {m : h_M} (h : RR b c m) {w g k : Nat} (hw : w < 3) (hg : (g : Int) < m 3 w) (hk : k < 8) : (c 2012 (40 * w + g + 1) k = 0 ∧ m 22 (8 * (40 * w + g) + k) = 0 ∧ G_State_inSlot w (40 * w + g + 1) (k : Int) c = some 0) ∨ (∃ pl q : Nat, 1 ≤ pl ∧ pl ≤ 30 ∧ c 2012 (40 * w + g + 1) k = (pl : Int) ∧ m 22 (8 * (40 * w + g) + k) = (q : Int) ∧ c 101 (31 * w + pl) 0 = (q : Int) ∧ c 105 (31 * w + pl) 0 = (g : Int) ∧ c 106 (31 * w + pl) 0 = (k : Int) ∧ (k : Int) < m 6 (40 * w + g) ∧ PO b c m w pl q ∧ G_State_inSlot w (40 * w + g + 1) (k : Int) c = some (31 * w + pl)) := by
  obtain ⟨g40, i120, hj, _⟩ := h.gr hw hg
  rcases h.P.2.1 w g k hw g40 hk with ⟨s1, s2⟩ | ⟨pl, s1, s2, s3, s4, s5, s6, s7, s8, s9⟩
  · refine Or.inl ⟨s1, s2, ?_⟩
    unfold G_State_inSlot
    simp (discharger := omega) only [gd1, Int.toNat_natCast, s1]
    simp
  · rcases h.P.2.2.1 w pl hw s1 s2 with z | ⟨q, z, hp⟩
    · omega
    · refine Or.inr ⟨pl, q, s1, s2, s3, by omega, z, s6, s7, s9, hp, ?_⟩
      unfold G_State_inSlot
      simp (discharger := omega) only [gd1, Int.toNat_natCast, s3]
      exact ifT (by omega) rfl
theorem pr_slot {b : Nat} {c : h_C} {m : h_M} (h : RR b c m) (v1 v2 : Int) : PP (G_SW_slot v1 v2 c) (G_Mo_slot v1 v2 m) := by
  obtain ⟨w, hw, e1, e2⟩ := h.w
  by_cases hg : 0 ≤ v1 ∧ v1 < m 3 w
  case neg =>
    refine ⟨-1, ?_, ?_⟩
    · unfold G_SW_slot
      simp only [e2, Int.toNat_natCast, s_gearOf0 hw h.F hg, q_some]
      exact gdT (by omega) (ifF (by simp) rfl)
    · unfold G_Mo_slot
      simp only [s_noGear hw h.F e1, if_neg hg, q_some]
      exact ifF (by decide) rfl
  obtain ⟨g, rfl⟩ : ∃ g : Nat, v1 = (g : Int) := ⟨v1.toNat, by omega⟩
  obtain ⟨g40, i120, hj, eK, k0, k10, eL, l0, l8, lt, ln⟩ := h.gr hw hg.2
  unfold G_SW_slot G_Mo_slot
  simp (discharger := omega) only [e1, e2, Int.toNat_natCast, q_some, s_gearOf hw h.F hg.2, s_noGear hw h.F e1, s_g hw e1 g40, s_beyond, if_pos hg, gd1, eL, p_w1, ↓reduceIte, ne_eq, Nat.add_eq_zero_iff, Nat.succ_ne_zero, and_false, not_false_eq_true]
  by_cases hv : 0 ≤ v2 ∧ v2 < m 6 (40 * w + g)
  · obtain ⟨k, rfl⟩ : ∃ k : Nat, v2 = (k : Int) := ⟨v2.toNat, by omega⟩
    rw [if_neg (by omega), if_pos (by omega), if_pos (show (if 0 ≤ (k : Int) ∧ (k : Int) ≤ m 6 (40 * w + g) - 1 then (0 : Int) else 1) = 0 from if_pos (by omega))]
    rw [show (8 * ((40 * w + g : Nat) : Int) + (k : Int)).toNat = 8 * (40 * w + g) + k by omega]
    rcases s_inSlot h hw hg.2 (k := k) (by omega) with ⟨a1, a2, a3⟩ | ⟨pl, q, a1, a2, a3, a4, a5, a6, a7, a8, a9, a10⟩
    · rw [a3, a2, q_some]
      exact ⟨0, ifF (by simp) rfl, by first | rfl | exact gdT (by omega) rfl⟩
    · rw [a10, a4, q_some]
      exact ⟨q, ifT (by omega) (gdT ⟨by omega, by omega⟩ (by rw [a5])), by first | rfl | exact gdT (by omega) rfl⟩
  · rw [if_neg (show ¬ (if 0 ≤ v2 ∧ v2 ≤ m 6 (40 * w + g) - 1 then (0 : Int) else 1) = 0 by rw [if_neg (by omega)]; decide)]
    refine ⟨-2, ?_, rfl⟩
    by_cases h0 : v2 < 0
    · exact ifT h0 rfl
    · exact ifF h0 (ifF (by omega) rfl)
theorem pr_linkOf {b : Nat} {c : h_C} {m : h_M} (h : RR b c m) (v1 v2 : Int) : PP (G_SW_linkOf v1 v2 c) (G_Mo_linkOf v1 v2 m) := by
  obtain ⟨w, hw, e1, e2⟩ := h.w
  by_cases hg : 0 ≤ v1 ∧ v1 < m 3 w
  case neg =>
    refine ⟨-1, ?_, ?_⟩
    · unfold G_SW_linkOf
      simp only [e2, Int.toNat_natCast, s_gearOf0 hw h.F hg, q_some]
      exact gdT (by omega) (ifF (by simp) rfl)
    · unfold G_Mo_linkOf
      simp only [s_noGear hw h.F e1, if_neg hg, q_some]
      exact ifF (by decide) rfl
  obtain ⟨g, rfl⟩ : ∃ g : Nat, v1 = (g : Int) := ⟨v1.toNat, by omega⟩
  obtain ⟨g40, i120, hj, eK, k0, k10, eL, l0, l8, lt, ln⟩ := h.gr hw hg.2
  obtain ⟨n1, n2, n3, n4, n5⟩ := (h.G.2 w g hw g40).1 hg.2
  unfold G_SW_linkOf G_Mo_linkOf
  simp (discharger := omega) only [e1, e2, Int.toNat_natCast, q_some, s_gearOf hw h.F hg.2, s_noGear hw h.F e1, s_g hw e1 g40, s_beyond, if_pos hg, gd1, n1, p_w1, ↓reduceIte, ne_eq, Nat.add_eq_zero_iff, Nat.succ_ne_zero, and_false, not_false_eq_true]
  by_cases hv : 0 ≤ v2 ∧ v2 < m 7 (40 * w + g)
  · obtain ⟨k, rfl⟩ : ∃ k : Nat, v2 = (k : Int) := ⟨v2.toNat, by omega⟩
    rw [if_neg (by omega), if_pos (by omega), if_pos (show (if 0 ≤ (k : Int) ∧ (k : Int) ≤ m 7 (40 * w + g) - 1 then (0 : Int) else 1) = 0 from if_pos (by omega))]
    rw [show (3 * ((40 * w + g : Nat) : Int) + (k : Int)).toNat = 3 * (40 * w + g) + k by omega, Int.toNat_natCast]
    have := ((h.G.1 (40 * w + g)).2.2.2.2.2.2.1 k (by omega)).1
    rw [this]
    exact PP.rf _
  · rw [if_neg (show ¬ (if 0 ≤ v2 ∧ v2 ≤ m 7 (40 * w + g) - 1 then (0 : Int) else 1) = 0 by rw [if_neg (by omega)]; decide)]
    refine ⟨-9, ?_, rfl⟩
    by_cases h0 : v2 < 0
    · exact ifT h0 rfl
    · exact ifF h0 (ifF (by omega) rfl)
theorem pr_parcel {b : Nat} {c : h_C} {m : h_M} (h : RR b c m) (v1 v2 : Int) : PP (G_SW_parcel v1 v2 c) (G_Mo_parcel v1 v2 m) := by
  obtain ⟨w, hw, e1, e2⟩ := h.w
  rcases h.find hw e1 v1 with ⟨pl, q, rfl, p1, p30, ep, hp, f1, f2⟩ | ⟨f1, f2⟩
  case inr =>
    refine ⟨-1, ?_, ?_⟩
    · unfold G_SW_parcel
      simp only [e2, Int.toNat_natCast, f1, q_some]
      exact gdT (by omega) (ifF (by simp) rfl)
    · unfold G_Mo_parcel
      simp only [f2, q_some]
      exact ifF (by decide) rfl
  have hvp : vP (31 * w + pl) := ⟨by omega, by omega⟩
  obtain ⟨⟨⟨q1, q2, q3, q4⟩, g, k, g40, k8, z1, z2, z3, z4, z5, z6, z7⟩, ⟨w1, w2, w3⟩, ⟨s1, s2, s3⟩, ⟨t1, t2⟩, ⟨u1, u2⟩, ⟨y1, y2, y3, y4⟩, ⟨x1, x2, x3, x4⟩⟩ := id hp
  have n2 := h.N.2.2.1
  unfold G_SW_parcel G_Mo_parcel G_Parcel_tell
  have hv : v2 = 0 ∨ v2 = 1 ∨ v2 = 2 ∨ v2 = 3 ∨ v2 = 4 ∨ v2 = 5 ∨ v2 = 6 ∨ v2 = 7 ∨ (v2 < 0 ∨ 7 < v2) := by omega
  rcases hv with rfl | rfl | rfl | rfl | rfl | rfl | rfl | rfl | hv
  case inr.inr.inr.inr.inr.inr.inr.inr =>
    simp only [show ¬ v2 = 0 by omega, show ¬ v2 = 1 by omega, show ¬ v2 = 2 by omega, show ¬ v2 = 3 by omega, show ¬ v2 = 4 by omega, show ¬ v2 = 5 by omega, show ¬ v2 = 6 by omega, show ¬ v2 = 7 by omega, e2, Int.toNat_natCast, q_some, f1, f2, gd1 (show 0 ≤ (w : Int) ∧ (w : Int) < 3 by omega), gd1 hvp, gd1 (show 0 ≤ (q : Int) ∧ (q : Int) < 2001 by omega), z1, z2, z6, z7, ← w1, ← s1, ← t1, ← u1, ← y1, ← x1, ↓reduceIte, ne_eq, if_true, if_false, show ¬ (31 * w + pl = 0) by omega, not_false_eq_true]
    exact PP.rf _
  all_goals simp only [e2, Int.toNat_natCast, q_some, f1, f2, gd1 (show 0 ≤ (w : Int) ∧ (w : Int) < 3 by omega), gd1 hvp, gd1 (show 0 ≤ (q : Int) ∧ (q : Int) < 2001 by omega), z1, z2, z6, z7, ← w1, ← s1, ← t1, ← u1, ← y1, ← x1, ↓reduceIte, ne_eq, if_true, if_false, show ¬ (31 * w + pl = 0) by omega, not_false_eq_true]
  all_goals try exact PP.rf _
  all_goals
    repeat' split
    all_goals first | exact PP.rf _ | (exfalso; omega)
theorem pr_way {b : Nat} {c : h_C} {m : h_M} (h : RR b c m) (v1 v2 : Int) : PP (G_SW_way v1 v2 c) (G_Mo_way v1 v2 m) := by
  obtain ⟨w, hw, e1, e2⟩ := h.w
  rcases h.find hw e1 v1 with ⟨pl, q, rfl, p1, p30, ep, hp, f1, f2⟩ | ⟨f1, f2⟩
  case inr =>
    refine ⟨-1, ?_, ?_⟩
    · unfold G_SW_way
      simp only [e2, Int.toNat_natCast, f1, q_some]
      exact gdT (by omega) (ifF (by simp) rfl)
    · unfold G_Mo_way
      simp only [f2, q_some]
      exact ifF (by decide) rfl
  have hvp : vP (31 * w + pl) := ⟨by omega, by omega⟩
  obtain ⟨⟨⟨q1, q2, q3, q4⟩, g, k, g40, k8, z1, z2, z3, z4, z5, z6, z7⟩, ⟨w1, w2, w3⟩, ⟨s1, s2, s3⟩, ⟨t1, t2⟩, ⟨u1, u2⟩, ⟨y1, y2, y3, y4⟩, ⟨x1, x2, x3, x4⟩⟩ := id hp
  have n2 := h.N.2.2.1
  unfold G_SW_way G_Mo_way GB_SW_way_36 GB_Mo_way_37
  simp (discharger := omega) only [e2, Int.toNat_natCast, q_some, f1, f2, gd1, ← y1, s_beyond, p_w1, ↓reduceIte, ne_eq]
  rw [if_pos (by omega)]
  by_cases hv : 0 ≤ v2 ∧ v2 < m 33 q ∧ v2 < 16
  · obtain ⟨k, rfl⟩ : ∃ k : Nat, v2 = (k : Int) := ⟨v2.toNat, by omega⟩
    refine ⟨m 34 (16 * q + k), ?_, ?_⟩
    · refine ifF (by omega) (ifF (by omega) (ifT (by omega) ?_))
      rw [y4 k (by omega) (by omega), Int.toNat_natCast]
    · split
      all_goals
        refine ifT (if_pos (by omega)) ?_
        rw [show (16 * (q : Int) + (k : Int)).toNat = 16 * q + k by omega]
  · refine ⟨-9, ?_, ?_⟩
    · repeat' split
      all_goals first | rfl | (exfalso; omega)
    · split
      all_goals
        refine ifF (fun z => ?_) rfl
        rw [if_neg (by omega)] at z
        exact absurd z (by decide)
theorem pr_byteOf {b : Nat} {c : h_C} {m : h_M} (h : RR b c m) (v1 v2 : Int) : PP (G_SW_byteOf v1 v2 c) (G_Mo_byteOf v1 v2 m) := by
  obtain ⟨w, hw, e1, e2⟩ := h.w
  rcases h.find hw e1 v1 with ⟨pl, q, rfl, p1, p30, ep, hp, f1, f2⟩ | ⟨f1, f2⟩
  case inr =>
    refine ⟨-1, ?_, ?_⟩
    · unfold G_SW_byteOf
      simp only [e2, Int.toNat_natCast, f1, q_some]
      exact gdT (by omega) (ifF (by simp) rfl)
    · unfold G_Mo_byteOf
      simp only [f2, q_some]
      exact ifF (by decide) rfl
  have hvp : vP (31 * w + pl) := ⟨by omega, by omega⟩
  obtain ⟨⟨⟨q1, q2, q3, q4⟩, g, k, g40, k8, z1, z2, z3, z4, z5, z6, z7⟩, ⟨w1, w2, w3⟩, ⟨s1, s2, s3⟩, ⟨t1, t2⟩, ⟨u1, u2⟩, ⟨y1, y2, y3, y4⟩, ⟨x1, x2, x3, x4⟩⟩ := id hp
  have n2 := h.N.2.2.1
  unfold G_SW_byteOf G_Mo_byteOf GB_SW_byteOf_30
  simp (discharger := omega) only [e2, Int.toNat_natCast, q_some, f1, f2, gd1, ← x1, s_beyond, p_w1, ↓reduceIte, ne_eq]
  rw [if_pos (by omega)]
  by_cases hv : 0 ≤ v2 ∧ v2 < m 31 q
  · obtain ⟨k, rfl⟩ : ∃ k : Nat, v2 = (k : Int) := ⟨v2.toNat, by omega⟩
    refine ⟨m 32 (12 * q + k), ?_, ?_⟩
    · refine ifF (by omega) (ifT (by omega) ?_)
      rw [(x4 k (by omega) (by omega)).1, Int.toNat_natCast]
    · refine ifT (if_pos (by omega)) ?_
      rw [show (12 * (q : Int) + (k : Int)).toNat = 12 * q + k by omega]
  · refine ⟨-9, ?_, ?_⟩
    · repeat' split
      all_goals first | rfl | (exfalso; omega)
    · rw [if_neg (show ¬ (if 0 ≤ v2 ∧ v2 ≤ m 31 q - 1 then (0 : Int) else 1) = 0 by rw [if_neg (by omega)]; decide)]
theorem pr_left {b : Nat} {c : h_C} {m : h_M} (h : RR b c m) (v1 : Int) : PP (G_SW_left v1 c) (G_Mo_left v1 m) := by
  obtain ⟨n1, n2, n3, n4⟩ := h.N
  unfold G_SW_left G_Mo_left GB_SW_left_16
  simp only [s_beyond, q_some, n1]
  by_cases hv : 1 ≤ v1 ∧ v1 ≤ m 123 0
  · obtain ⟨q, rfl⟩ : ∃ q : Nat, v1 = (q : Int) := ⟨v1.toNat, by omega⟩
    obtain ⟨k1, k2, k3, k4, k5⟩ := n4 q (by omega) (by omega)
    rw [if_neg (by omega), if_pos (by omega), if_pos (show (if 1 ≤ (q : Int) ∧ (q : Int) ≤ m 123 0 then (0 : Int) else 1) = 0 from if_pos hv), gd1 (by omega), gd1 (by omega), Int.toNat_natCast, k4]
    refine ⟨_, rfl, ?_⟩
    rcases k1 with k | k | k
    · rw [if_neg (by simp [k]), if_pos k]
    · rw [if_pos (by simp [k]), if_neg (by simp [k]), if_neg (by simp [k]), if_pos k, p_w1 (by omega) (by omega)]
    · have := k5 k
      rw [if_pos (by simp [k]), if_pos (by simp [k]), if_neg (by simp [k]), if_neg (by simp [k]), p_w1 (x := 1000 * _) (by omega) (by omega), p_w1 (by omega) (by omega)]
  · rw [if_neg (show ¬ (if 1 ≤ v1 ∧ v1 ≤ m 123 0 then (0 : Int) else 1) = 0 by rw [if_neg hv]; decide)]
    refine ⟨-1, ?_, rfl⟩
    repeat' split
    all_goals first | rfl | (exfalso; omega)
