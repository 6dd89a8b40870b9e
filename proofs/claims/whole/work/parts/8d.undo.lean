/-! ===== numbers undone, in the class ===== -/
theorem s_inside (w : Nat) (hw : w < 3) (c : h_C) : G_Numbers_insideOf (w : Int) c = some (-10 - (w : Int)) := by
  unfold G_Numbers_insideOf
  rw [p_w1 (by omega) (by omega)]
theorem s_undo1 {w : Nat} (hw : w < 3) {n : Nat} (hn : n ≤ 2000) : ∀ (d q fu : Nat) (c : h_C), q + d = n + 1 → 1 ≤ q → d < fu → c 701 0 0 = (n : Int) → (∀ x, q ≤ x → x ≤ n → c 2040 0 x < 2147483648) → ∃ c', GO_Numbers_undoSince_7 fu (w : Int) w (q : Int) c = GO_Numbers_undoSince_67 3000 (w : Int) w 1 c' ∧ eC [2040] c c' ∧ (∀ x : Nat, c' 2040 0 x = if q ≤ x ∧ x ≤ n ∧ (c 2040 0 x = -10 - (w : Int) ∨ (0 ≤ c 2040 0 x ∧ c 2040 0 x / 1000 = (w : Int))) then -9 else c 2040 0 x) := by
  intro d
  induction d with
  | zero =>
    intro q fu c hd h1 hf e1 hv
    obtain ⟨fu, rfl⟩ : ∃ g, fu = g + 1 := ⟨fu - 1, by omega⟩
    refine ⟨c, ?_, eC.rf _ _, fun x => by rw [if_neg (by omega)]⟩
    show GL_Numbers_undoSince_7 _ _ _ _ c = _
    unfold GL_Numbers_undoSince_7
    rw [if_pos (by omega)]
  | succ d ih =>
    intro q fu c hd h1 hf e1 hv
    obtain ⟨fu, rfl⟩ : ∃ g, fu = g + 1 := ⟨fu - 1, by omega⟩
    have nC : ∀ c2 : h_C, GB_Numbers_undoSince_59 (GO_Numbers_undoSince_7 fu) (w : Int) w (q : Int) c2 = GO_Numbers_undoSince_7 fu (w : Int) w ((q + 1 : Nat) : Int) c2 := fun c2 => by
      unfold GB_Numbers_undoSince_59
      rw [p_w1 (by omega) (by omega), bi1]
      rfl
    have hC : ∀ X, (if (c 2040 0 q = -10 - (w : Int) ∨ (0 ≤ c 2040 0 q ∧ c 2040 0 q / 1000 = (w : Int))) then GO_Numbers_undoSince_7 fu (w : Int) w ((q + 1 : Nat) : Int) (wc c 2040 0 q (-9)) else GO_Numbers_undoSince_7 fu (w : Int) w ((q + 1 : Nat) : Int) c) = X → GO_Numbers_undoSince_7 (fu + 1) (w : Int) w (q : Int) c = X := fun X hX => by
      show GL_Numbers_undoSince_7 _ _ _ _ c = _
      unfold GL_Numbers_undoSince_7 GB_Numbers_undoSince_51
      rw [if_neg (by omega), gd1 (by omega), s_inside w hw, q_some, gd1 (by omega), Int.toNat_natCast]
      simp only [bi1, nC]
      rw [← hX]
      have hv' := hv q (by omega) (by omega)
      by_cases h1 : c 2040 0 q = -10 - (w : Int)
      · rw [if_pos h1, if_pos (Or.inl h1)]
      · rw [if_neg h1]
        by_cases h2 : c 2040 0 q < 0
        · rw [if_pos h2, if_neg (by omega)]
        · rw [if_neg h2, p_div1 (by omega) hv' (by omega)]
          by_cases h3 : c 2040 0 q / 1000 = (w : Int)
          · rw [if_neg (by omega), if_pos (Or.inr ⟨by omega, h3⟩)]
          · rw [if_pos h3, if_neg (by omega)]
    by_cases hc : (c 2040 0 q = -10 - (w : Int) ∨ (0 ≤ c 2040 0 q ∧ c 2040 0 q / 1000 = (w : Int)))
    · obtain ⟨c', y1, y2, y3⟩ := ih (q + 1) fu (wc c 2040 0 q (-9)) (by omega) (by omega) (by omega) (by rw [wc_ne (by decide)]; exact e1) (fun x z1 z2 => by rw [wc_at, if_neg (by omega)]; exact hv x (by omega) z2)
      refine ⟨c', hC _ (by rw [if_pos hc]; exact y1), eC.tr (by repeat first | exact eC.rf _ _ | refine eC.wc ?_ (by decide) _ _ _ | refine eC.sr ?_ (by decide) _ _) y2, fun x => ?_⟩
      rw [y3 x, wc_at]
      by_cases e : x = q
      · subst e
        rw [if_neg (by omega), if_pos ⟨rfl, rfl, rfl⟩, if_pos ⟨by omega, by omega, hc⟩]
      · rw [if_neg (show ¬ (2040 = 2040 ∧ 0 = 0 ∧ x = q) from fun z => e z.2.2)]
        by_cases hc' : q + 1 ≤ x ∧ x ≤ n ∧ (c 2040 0 x = -10 - (w : Int) ∨ (0 ≤ c 2040 0 x ∧ c 2040 0 x / 1000 = (w : Int)))
        · rw [if_pos hc', if_pos ⟨by omega, hc'.2⟩]
        · rw [if_neg hc', if_neg (fun z => hc' ⟨by omega, z.2⟩)]
    · obtain ⟨c', y1, y2, y3⟩ := ih (q + 1) fu c (by omega) (by omega) (by omega) e1 (fun x z1 z2 => hv x (by omega) z2)
      refine ⟨c', hC _ (by rw [if_neg hc]; exact y1), y2, fun x => ?_⟩
      rw [y3 x]
      by_cases hc' : q + 1 ≤ x ∧ x ≤ n ∧ (c 2040 0 x = -10 - (w : Int) ∨ (0 ≤ c 2040 0 x ∧ c 2040 0 x / 1000 = (w : Int)))
      · rw [if_pos hc', if_pos ⟨by omega, hc'.2⟩]
      · rw [if_neg hc', if_neg (fun z => by
          by_cases e : x = q
          · subst e; exact hc z.2.2
          · exact hc' ⟨by omega, z.2⟩)]
theorem s_undo2 {w : Nat} (hw : w < 3) : ∀ (d pl fu : Nat) (c : h_C), pl + d = 31 → 1 ≤ pl → d < fu → (∀ p', pl ≤ p' → p' ≤ 30 → 0 ≤ c 101 (31 * w + p') 0 ∧ c 101 (31 * w + p') 0 ≤ 2000) → ∃ c', GO_Numbers_undoSince_67 fu (w : Int) w (pl : Int) c = some c' ∧ eC [2040] c c' ∧ (∀ p' x : Nat, pl ≤ p' → p' ≤ 30 → 1 ≤ x → c 101 (31 * w + p') 0 = (x : Int) → c' 2040 0 x = -10 - (w : Int)) ∧ (∀ x : Nat, 1 ≤ x → (∀ p', pl ≤ p' → p' ≤ 30 → c 101 (31 * w + p') 0 ≠ (x : Int)) → c' 2040 0 x = c 2040 0 x) := by
  intro d
  induction d with
  | zero =>
    intro pl fu c hd h1 hf hv
    obtain ⟨fu, rfl⟩ : ∃ g, fu = g + 1 := ⟨fu - 1, by omega⟩
    refine ⟨c, ?_, eC.rf _ _, fun p' x z1 z2 => by omega, fun _ _ _ => rfl⟩
    show GL_Numbers_undoSince_67 _ _ _ _ c = _
    unfold GL_Numbers_undoSince_67
    rw [if_pos (by omega)]
  | succ d ih =>
    intro pl fu c hd h1 hf hv
    obtain ⟨fu, rfl⟩ : ∃ g, fu = g + 1 := ⟨fu - 1, by omega⟩
    have nC : ∀ c2 : h_C, GB_Numbers_undoSince_100 (GO_Numbers_undoSince_67 fu) (w : Int) w (pl : Int) c2 = GO_Numbers_undoSince_67 fu (w : Int) w ((pl + 1 : Nat) : Int) c2 := fun c2 => by
      unfold GB_Numbers_undoSince_100
      rw [p_w1 (by omega) (by omega), bi1]
      rfl
    obtain ⟨q, hq⟩ : ∃ q : Nat, c 101 (31 * w + pl) 0 = (q : Int) := ⟨(c 101 (31 * w + pl) 0).toNat, by have := hv pl (by omega) (by omega); omega⟩
    have hq2 := (hv pl (by omega) (by omega)).2
    have hC : ∀ X, (if q = 0 then GO_Numbers_undoSince_67 fu (w : Int) w ((pl + 1 : Nat) : Int) c else GO_Numbers_undoSince_67 fu (w : Int) w ((pl + 1 : Nat) : Int) (wc c 2040 0 q (-10 - (w : Int)))) = X → GO_Numbers_undoSince_67 (fu + 1) (w : Int) w (pl : Int) c = X := fun X hX => by
      show GL_Numbers_undoSince_67 _ _ _ _ c = _
      unfold GL_Numbers_undoSince_67
      rw [if_neg (by omega), gd1 hw, gd1 (by omega), gd1 (by omega), Int.toNat_natCast, hq, bi1, s_inside w hw, q_some, gd1 (by omega), Int.toNat_natCast]
      simp only [bi1, nC]
      rw [← hX]
      by_cases h0 : q = 0
      · rw [if_pos h0, if_pos (by omega)]
      · rw [if_neg h0, if_neg (by omega)]
    by_cases h0 : q = 0
    · obtain ⟨c', y1, y2, y3, y4⟩ := ih (pl + 1) fu c (by omega) (by omega) (by omega) (fun p' z1 z2 => hv p' (by omega) z2)
      refine ⟨c', hC _ (by rw [if_pos h0]; exact y1), y2, fun p' x z1 z2 z3 z4 => ?_, fun x z1 z2 => y4 x z1 (fun p' w1 w2 => z2 p' (by omega) w2)⟩
      by_cases e : p' = pl
      · subst e; omega
      · exact y3 p' x (by omega) z2 z3 z4
    · obtain ⟨c', y1, y2, y3, y4⟩ := ih (pl + 1) fu (wc c 2040 0 q (-10 - (w : Int))) (by omega) (by omega) (by omega) (fun p' z1 z2 => by rw [wc_ne (by decide)]; exact hv p' (by omega) z2)
      refine ⟨c', hC _ (by rw [if_neg h0]; exact y1), eC.tr (by repeat first | exact eC.rf _ _ | refine eC.wc ?_ (by decide) _ _ _ | refine eC.sr ?_ (by decide) _ _) y2, fun p' x z1 z2 z3 z4 => ?_, fun x z1 z2 => ?_⟩
      · by_cases hx : ∃ p'', pl + 1 ≤ p'' ∧ p'' ≤ 30 ∧ c 101 (31 * w + p'') 0 = (x : Int)
        · obtain ⟨p'', w1, w2, w3⟩ := hx
          exact y3 p'' x w1 w2 z3 (by rw [wc_ne (by decide)]; exact w3)
        · rw [y4 x z3 (fun p'' w1 w2 w3 => hx ⟨p'', w1, w2, by rw [wc_ne (by decide)] at w3; exact w3⟩)]
          by_cases e : p' = pl
          · subst e
            have : x = q := by omega
            subst this
            simp [wc_at]
          · exact absurd ⟨p', by omega, z2, z4⟩ hx
      · rw [y4 x z1 (fun p'' w1 w2 => by rw [wc_ne (by decide)]; exact z2 p'' (by omega) w2), wc_at, if_neg (fun z => z2 pl (by omega) (by omega) (by rw [hq, z.2.2]))]
theorem s_floor (c : h_C) {x v : Nat} (hx : x < 30) (hv : v ≤ 30) : G_Ma_floorMod (p_w ((x : Int) - (v : Int))) 30 c = some (((x + 30 - v) % 30 : Nat) : Int) := by
  rw [p_w1 (by omega) (by omega)]
  have key : ∀ n : Fin 60, (if 0 ≤ p_xor ((n.val : Int) - 30) 30 then p_rem ((n.val : Int) - 30) 30 else if p_rem ((n.val : Int) - 30) 30 = 0 then p_rem ((n.val : Int) - 30) 30 else p_w (p_rem ((n.val : Int) - 30) 30 + 30)) = ((n.val % 30 : Nat) : Int) := by decide +kernel
  have := key ⟨x + 30 - v, by omega⟩
  rw [show (((⟨x + 30 - v, by omega⟩ : Fin 60).val : Int) - 30) = (x : Int) - (v : Int) by show ((x + 30 - v : Nat) : Int) - 30 = _; omega] at this
  unfold G_Ma_floorMod
  rw [gd1 (by decide), bi1]
  rw [← show ((if 0 ≤ p_xor ((x : Int) - (v : Int)) 30 then p_rem ((x : Int) - (v : Int)) 30 else if p_rem ((x : Int) - (v : Int)) 30 = 0 then p_rem ((x : Int) - (v : Int)) 30 else p_w (p_rem ((x : Int) - (v : Int)) 30 + 30)) = (((x + 30 - v) % 30 : Nat) : Int)) from this]
  by_cases h1 : 0 ≤ p_xor ((x : Int) - (v : Int)) 30
  · rw [if_pos h1, if_pos h1]
  · rw [if_neg h1, if_neg h1]
    by_cases h2 : p_rem ((x : Int) - (v : Int)) 30 = 0
    · rw [if_pos h2, if_pos h2]
    · rw [if_neg h2, if_neg h2]
