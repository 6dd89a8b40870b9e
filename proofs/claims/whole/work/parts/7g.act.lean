theorem tw_44 (m : h_M) (a b : Nat → Int) : tw m a b 44 = a := by
  unfold tw sm
  simp
theorem tw_45 (m : h_M) (a b : Nat → Int) : tw m a b 45 = b := by
  unfold tw sm
  simp
theorem tw_ne (m : h_M) (a b : Nat → Int) {f : Nat} (h : f ≠ 44 ∧ f ≠ 45) : tw m a b f = m f := by
  unfold tw sm
  simp [h.1, h.2]
theorem tw_eq {m m' : h_M} (h : ∀ f, f ≠ 44 → f ≠ 45 → m' f = m f) : m' = tw m (m' 44) (m' 45) := by
  funext f
  by_cases e : f = 44
  · subst e; rw [tw_44]
  · by_cases e' : f = 45
    · subst e'; rw [tw_45]
    · rw [tw_ne _ _ _ ⟨e, e'⟩, h f e e']
theorem body_tw {m1 m1' m2 : h_M} {w : Nat} (hw : w < 3) (v : Int) (e1 : m1 100 0 = (w : Int)) (e2 : m2 100 0 = (w : Int)) (t0 : 0 ≤ m1 44 w) (h : G_Mo_body v m1 = some m1') (h44 : m2 44 = m1' 44) (h45 : m2 45 = m1' 45) : G_Mo_body v (tw m2 (m1 44) (m1 45)) = some m2 := by
  have w3 : (0 : Int) ≤ (w : Int) ∧ (w : Int) < 3 := by omega
  have e3 : (tw m2 (m1 44) (m1 45)) 100 0 = (w : Int) := by rw [tw_ne _ _ _ (by decide), e2]
  unfold G_Mo_body GB_Mo_body_37 at h ⊢
  rw [e1, gd1 w3, Int.toNat_natCast] at h
  rw [e3, gd1 w3, Int.toNat_natCast, tw_44]
  by_cases z : 60 ≤ m1 44 w
  · rw [if_pos z, gd1 w3, bi1] at h
    rw [if_pos z, gd1 w3, bi1]
    have h' := Option.some.inj h
    refine congrArg some ?_
    funext f x
    rw [wm_at]
    by_cases f4 : f = 44
    · subst f4
      rw [h44, ← h', wm_at, tw_44]
    · rw [if_neg (fun y => f4 y.1)]
      by_cases f5 : f = 45
      · subst f5
        rw [h45, ← h', wm_at, if_neg (by omega), tw_45]
      · rw [tw_ne _ _ _ ⟨f4, f5⟩]
  · have g1 : (0 : Int) ≤ p_w (p_w (60 * (w : Int)) + m1 44 w) ∧ p_w (p_w (60 * (w : Int)) + m1 44 w) < 180 := by
      rw [p_w1 (x := 60 * (w : Int)) (by omega) (by omega), p_w1 (by omega) (by omega)]
      omega
    have r1 : ∀ (mm : h_M) (i : Nat), mm 100 0 = (w : Int) → (wm mm 45 i v) 100 0 = (w : Int) := fun mm i hh => by rw [wm_at, if_neg (by omega), hh]
    rw [if_neg z, gd1 g1, bi1, r1 _ _ e1, gd1 w3, Int.toNat_natCast, bi1] at h
    rw [if_neg z, gd1 g1, bi1, r1 _ _ e3, gd1 w3, Int.toNat_natCast, bi1]
    have h' := Option.some.inj h
    refine congrArg some ?_
    funext f x
    rw [wm_at, wm_at, wm_at]
    by_cases f4 : f = 44
    · subst f4
      rw [h44, ← h', wm_at, wm_at, wm_at, tw_44]
    · rw [if_neg (fun y => f4 y.1)]
      by_cases f5 : f = 45
      · subst f5
        rw [h45, ← h', wm_at, wm_at, if_neg (show ¬ ((45 : Nat) = 44 ∧ x = w) by omega), tw_45, wm_at]
      · rw [if_neg (fun y => f5 y.1), tw_ne _ _ _ ⟨f4, f5⟩]
/-- the lamp and the count of acts -/
theorem ZZ.lamp {b : Nat} {c : h_C} {m : h_M} {w : Nat} {F L : Int} (h : ZZ b c m w F L) {g : Nat} (hg : (g : Int) < m 3 w) (ha : m 171 0 = (g : Int)) : ∃ c' m', GB_Step_act_116 (40 * w + g + 1) c = some c' ∧ GB_Mo_act_66 ((40 * w + g : Nat) : Int) m = some m' ∧ ZZ b c' m' w F L ∧ eC [13, 9] c c' ∧ eM [21, 17] m m' := by
  obtain ⟨hR, ⟨hw, e1, e2, e3, e4, e5⟩, _, hFD, _⟩ := id h
  obtain ⟨g40, i120, hj, eK, _⟩ := hR.gr hw hg
  have i12 : (0 : Int) ≤ ((40 * w + g : Nat) : Int) ∧ ((40 * w + g : Nat) : Int) < 120 := by omega
  obtain ⟨_, e7, e8, _, _, _, _, e13, _, _⟩ := (hR.G.1 (40 * w + g)).1
  have fin : ∀ x : Int, ZZ b (wc (wc c 13 (40 * w + g + 1) 0 (p_w (m 21 (40 * w + g) + 1))) 9 (40 * w + g + 1) 0 x) (wm (wm m 21 (40 * w + g) (p_w (m 21 (40 * w + g) + 1))) 17 (40 * w + g) x) w F L := fun x => h.ofE (lc := [13, 9]) (lm := [21, 17]) (Nat.le_refl _) ((hR.f13 (40 * w + g) _).f9 (40 * w + g) x) (by repeat first | exact eC.rf _ _ | refine eC.wc ?_ (by decide) _ _ _ | refine eC.sr ?_ (by decide) _ _) (by repeat first | exact eM.rf _ _ | refine eM.wm ?_ (by decide) _ _) rfl rfl
  have hC : ∀ x, (if m 5 (40 * w + g) ≠ 9 then (if c 804 0 0 = 0 then (if m 16 (40 * w + g) ≤ 0 then 1 else 2) else 3) else (if m 14 (40 * w + g) = 0 then 0 else 1)) = x → GB_Step_act_116 (40 * w + g + 1) c = some (wc (wc c 13 (40 * w + g + 1) 0 (p_w (m 21 (40 * w + g) + 1))) 9 (40 * w + g + 1) 0 x) := by
    intro x hx
    have r0 : ∀ f, f ≠ 13 → (wc c 13 (40 * w + g + 1) 0 (p_w (m 21 (40 * w + g) + 1))) f = c f := fun f hf => by
      funext i l
      rw [wc_at, if_neg (fun z => hf z.1)]
    unfold GB_Step_act_116 G_Step_lampOf
    rw [gd1 hj, e13, bi1, gd1 hj, r0 0 (by decide), r0 804 (by decide), r0 8 (by decide), r0 7 (by decide), eK, e8, e7, ← hx]
    repeat' split
    all_goals rw [q_some, bi1]
  have hM : ∀ x, (if m 5 (40 * w + g) ≠ 9 then (if m 172 0 ≤ 0 then (if m 16 (40 * w + g) ≤ 0 then 1 else 2) else 3) else (if m 14 (40 * w + g) = 0 then 0 else 1)) = x → GB_Mo_act_66 ((40 * w + g : Nat) : Int) m = some (wm (wm m 21 (40 * w + g) (p_w (m 21 (40 * w + g) + 1))) 17 (40 * w + g) x) := by
    intro x hx
    have r0 : ∀ f, f ≠ 21 → (wm m 21 (40 * w + g) (p_w (m 21 (40 * w + g) + 1))) f = m f := fun f hf => by
      funext i
      rw [wm_at, if_neg (fun z => hf z.1)]
    unfold GB_Mo_act_66
    rw [gd1 i12, Int.toNat_natCast, bi1, r0 5 (by decide), r0 172 (by decide), r0 16 (by decide), r0 14 (by decide), ← hx]
    repeat' split
    all_goals rw [bi1]
  have same : (if c 804 0 0 = 0 then (if m 16 (40 * w + g) ≤ 0 then (1 : Int) else 2) else 3) = (if m 172 0 ≤ 0 then (if m 16 (40 * w + g) ≤ 0 then 1 else 2) else 3) := by
    rcases hFD with a0 | ⟨a1, a2⟩ | ⟨a1, a2, _⟩
    · omega
    · rw [if_pos a1, if_pos (show m 172 0 ≤ 0 by omega)]
    · rw [if_neg (show ¬ c 804 0 0 = 0 by omega), if_neg (show ¬ m 172 0 ≤ 0 by omega)]
  exact ⟨_, _, hC _ rfl, hM _ (by rw [← same]), fin _, (by repeat first | exact eC.rf _ _ | refine eC.wc ?_ (by decide) _ _ _ | refine eC.sr ?_ (by decide) _ _), (by repeat first | exact eM.rf _ _ | refine eM.wm ?_ (by decide) _ _)⟩
def bB (K : Int) : List Int := if K = 1 then [2] else if K = 2 then [3] else if K = 3 then [4] else if K = 4 then [5, 4] else if K = 5 then [6] else if K = 6 then [7, 6] else if K = 7 then [8] else if K = 8 then [9] else []
def bL (K : Int) : List Int := if 5 ≤ K then [] else [1]
theorem s_bodies (K : Int) (m : h_M) : G_Mo_bodies K m = bds (bB K) m := by
  unfold G_Mo_bodies bB
  repeat' split
  all_goals rfl
theorem s_bodiesLast (K : Int) (m : h_M) : G_Mo_bodiesLast K m = bds (bL K) m := by
  unfold G_Mo_bodiesLast bL
  repeat' split
  all_goals rfl
theorem bBL {K : Int} (h0 : 0 ≤ K) (h9 : K < 9) : bB K ++ bL K = bodL K.toNat := by
  have h : K = 0 ∨ K = 1 ∨ K = 2 ∨ K = 3 ∨ K = 4 ∨ K = 5 ∨ K = 6 ∨ K = 7 ∨ K = 8 := by omega
  rcases h with h | h | h | h | h | h | h | h | h <;> subst h <;> rfl
