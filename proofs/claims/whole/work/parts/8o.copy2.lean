/-! ===== copy: rules and plans of the reference ===== -/
theorem n_cpTests {s e : Nat} (hs0 : s < 36) (he0 : e < 36) : ∀ (d j fu : Nat) (m : h_M), j + d = 4 → d < fu → ∃ m', GO_Mo_copyRule_33 fu (s : Int) (e : Int) (j : Int) m = some m' ∧ eM [52, 53, 54, 55] m m' ∧ (∀ f x, f ∈ [52, 53, 54, 55] → ¬ (4 * e + j ≤ x ∧ x < 4 * e + 4) → m' f x = m f x) ∧ (∀ f t, f ∈ [52, 53, 54, 55] → j ≤ t → t < 4 → m' f (4 * e + t) = m f (4 * s + t)) := by
  intro d
  induction d with
  | zero =>
    intro j fu m hd hf
    obtain ⟨fu, rfl⟩ : ∃ g, fu = g + 1 := ⟨fu - 1, by omega⟩
    refine ⟨m, ?_, eM.rf _ _, fun _ _ _ _ => rfl, fun f t _ h1 h2 => by omega⟩
    show GL_Mo_copyRule_33 _ _ _ _ m = _
    unfold GL_Mo_copyRule_33
    rw [if_pos (by omega)]
  | succ d ih =>
    intro j fu m hd hf
    obtain ⟨fu, rfl⟩ : ∃ g, fu = g + 1 := ⟨fu - 1, by omega⟩
    generalize hm1 : wm (wm (wm (wm m 52 (4 * e + j) (m 52 (4 * s + j))) 53 (4 * e + j) (m 53 (4 * s + j))) 54 (4 * e + j) (m 54 (4 * s + j))) 55 (4 * e + j) (m 55 (4 * s + j)) = m1
    have n1 : eM [52, 53, 54, 55] m m1 := by rw [← hm1]; exact (by repeat first | exact eM.rf _ _ | refine eM.wm ?_ (by decide) _ _)
    have at1 : ∀ f x, f ∈ [52, 53, 54, 55] → m1 f x = if x = 4 * e + j then m f (4 * s + j) else m f x := fun f x hf => by
      rw [← hm1]
      simp only [List.mem_cons, List.not_mem_nil, or_false] at hf
      rcases hf with rfl | rfl | rfl | rfl
      all_goals
        by_cases z : x = 4 * e + j
        · subst z; simp [wm_at]
        · simp [wm_at, z]
    obtain ⟨m', y1, y2, y3, y4⟩ := ih (j + 1) fu m1 (by omega) (by omega)
    refine ⟨m', ?_, n1.tr y2, fun f x hf hx => ?_, fun f t hf h1 h2 => ?_⟩
    · rw [← y1]
      show GL_Mo_copyRule_33 _ _ _ _ m = _
      unfold GL_Mo_copyRule_33
      rw [if_neg (by omega), p_w1 (x := 4 * (s : Int)) (by omega) (by omega), p_w1 (x := 4 * (s : Int) + (j : Int)) (by omega) (by omega), p_w1 (x := 4 * (e : Int)) (by omega) (by omega), p_w1 (x := 4 * (e : Int) + (j : Int)) (by omega) (by omega), gd1 (by omega), gd1 (by omega), show (4 * (s : Int) + (j : Int)).toNat = 4 * s + j by omega, show (4 * (e : Int) + (j : Int)).toNat = 4 * e + j by omega, p_w1 (x := (j : Int) + 1) (by omega) (by omega)]
      simp only [bi1, wm_at, show ¬ ((53 : Nat) = 52) by decide, show ¬ ((54 : Nat) = 52) by decide, show ¬ ((54 : Nat) = 53) by decide, show ¬ ((55 : Nat) = 52) by decide, show ¬ ((55 : Nat) = 53) by decide, show ¬ ((55 : Nat) = 54) by decide, false_and, if_false]
      rw [hm1]
      rfl
    · rw [y3 f x hf (by omega), at1 f x hf, if_neg (by omega)]
    · by_cases z : t = j
      · subst z
        rw [y3 f _ hf (by omega), at1 f _ hf, if_pos rfl]
      · rw [y4 f t hf (by omega) h2, at1 f _ hf]
        by_cases z' : 4 * s + t = 4 * e + j
        · omega
        · rw [if_neg z']
def crM : List Nat := [49, 50, 51, 52, 53, 54, 55]
theorem n_copyRule {s e : Nat} (hs0 : s < 36) (he0 : e < 36) (m : h_M) : ∃ m', G_Mo_copyRule (s : Int) (e : Int) m = some m' ∧ eM crM m m' ∧ (∀ f x, f ∈ [49, 50, 51] → x ≠ e → m' f x = m f x) ∧ (∀ f x, f ∈ [52, 53, 54, 55] → ¬ (4 * e ≤ x ∧ x < 4 * e + 4) → m' f x = m f x) ∧ m' 49 e = m 49 s ∧ m' 50 e = m 50 s ∧ m' 51 e = 0 ∧ (∀ f t, f ∈ [52, 53, 54, 55] → t < 4 → m' f (4 * e + t) = m f (4 * s + t)) := by
  generalize hm1 : wm (wm (wm m 49 e (m 49 s)) 50 e (m 50 s)) 51 e 0 = m1
  have n1 : eM [49, 50, 51] m m1 := by rw [← hm1]; exact (by repeat first | exact eM.rf _ _ | refine eM.wm ?_ (by decide) _ _)
  obtain ⟨m', y1, y2, y3, y4⟩ := n_cpTests hs0 he0 4 0 3000 m1 (by omega) (by omega)
  have nf : ∀ f, f ∈ [52, 53, 54, 55] → m1 f = m f := fun f hf => n1 f (by revert hf; revert f; decide)
  refine ⟨m', ?_, (n1.up (by decide)).tr (y2.up (by decide)), fun f x hf hx => ?_, fun f x hf hx => ?_, ?_, ?_, ?_, fun f t hf ht => ?_⟩
  · unfold G_Mo_copyRule
    rw [gd1 (by omega), gd1 (by omega), Int.toNat_natCast, Int.toNat_natCast, bi1, show (wm m 49 e (m 49 s)) 50 s = m 50 s by rw [wm_at, if_neg (by omega)], bi1, bi1, hm1]
    exact y1
  · rw [y2 f (by revert hf; revert f; decide), ← hm1]
    simp [wm_at, hx]
  · rw [y3 f x hf (by omega), nf f hf]
  · rw [y2 49 (by decide), ← hm1]; simp [wm_at]
  · rw [y2 50 (by decide), ← hm1]; simp [wm_at]
  · rw [y2 51 (by decide), ← hm1]; simp [wm_at]
  · rw [y4 f t hf (by omega) ht, nf f hf]
theorem n_copyRules {w u : Nat} (hw : w < 3) (hu : u < 3) {n : Nat} (hn : n ≤ 12) : ∀ (d r fu : Nat) (m : h_M), r + d = n → d < fu → m 100 0 = (w : Int) → m 48 u = (n : Int) → ∃ m', GO_Mo_copy_102 fu (u : Int) (r : Int) m = GO_Mo_copy_154 3000 (u : Int) 0 (wm m' 56 w (m' 56 u)) ∧ eM crM m m' ∧ (∀ f x, f ∈ [49, 50, 51] → ¬ (12 * w + r ≤ x ∧ x < 12 * w + n) → m' f x = m f x) ∧ (∀ f x, f ∈ [52, 53, 54, 55] → ¬ (48 * w + 4 * r ≤ x ∧ x < 48 * w + 4 * n) → m' f x = m f x) ∧ (∀ r', r ≤ r' → r' < n → m' 49 (12 * w + r') = m 49 (12 * u + r') ∧ m' 50 (12 * w + r') = m 50 (12 * u + r') ∧ m' 51 (12 * w + r') = 0 ∧ (∀ f t, f ∈ [52, 53, 54, 55] → t < 4 → m' f (48 * w + 4 * r' + t) = m f (48 * u + 4 * r' + t))) := by
  intro d
  induction d with
  | zero =>
    intro r fu m hd hf e1 e48
    obtain ⟨fu, rfl⟩ : ∃ g, fu = g + 1 := ⟨fu - 1, by omega⟩
    refine ⟨m, ?_, eM.rf _ _, fun _ _ _ _ => rfl, fun _ _ _ _ => rfl, fun r' h1 h2 => by omega⟩
    show GL_Mo_copy_102 _ _ _ m = _
    unfold GL_Mo_copy_102
    rw [gd1 (by omega), Int.toNat_natCast, e48, if_pos (by omega), e1, gd1 (by omega), Int.toNat_natCast]
    rfl
  | succ d ih =>
    intro r fu m hd hf e1 e48
    obtain ⟨fu, rfl⟩ : ∃ g, fu = g + 1 := ⟨fu - 1, by omega⟩
    obtain ⟨m1, a1, a2, a3, a4, a5, a6, a7, a8⟩ := n_copyRule (s := 12 * u + r) (e := 12 * w + r) (by omega) (by omega) m
    obtain ⟨m', y1, y2, y3, y4, y5⟩ := ih (r + 1) fu m1 (by omega) (by omega) (by rw [a2 100 (by decide)]; exact e1) (by rw [a2 48 (by decide)]; exact e48)
    refine ⟨m', ?_, a2.tr y2, fun f x hf hx => ?_, fun f x hf hx => ?_, fun r' h1 h2 => ?_⟩
    · rw [← y1]
      show GL_Mo_copy_102 _ _ _ m = _
      unfold GL_Mo_copy_102
      rw [gd1 (by omega), Int.toNat_natCast, e48, if_neg (by omega), e1, p_w1 (x := 12 * (u : Int)) (by omega) (by omega), p_w1 (x := 12 * (u : Int) + (r : Int)) (by omega) (by omega), p_w1 (x := 12 * (w : Int)) (by omega) (by omega), p_w1 (x := 12 * (w : Int) + (r : Int)) (by omega) (by omega), show 12 * (u : Int) + (r : Int) = ((12 * u + r : Nat) : Int) by omega, show 12 * (w : Int) + (r : Int) = ((12 * w + r : Nat) : Int) by omega, a1, q_some, p_w1 (by omega) (by omega)]
      rfl
    · rw [y3 f x hf (by omega), a3 f x hf (by omega)]
    · rw [y4 f x hf (by omega), a4 f x hf (by omega)]
    · by_cases z : r' = r
      · subst z
        rw [y3 49 _ (by decide) (by omega), y3 50 _ (by decide) (by omega), y3 51 _ (by decide) (by omega)]
        refine ⟨a5, a6, a7, fun f t hf ht => ?_⟩
        rw [y4 f _ hf (by omega), show 48 * w + 4 * r' + t = 4 * (12 * w + r') + t by omega, a8 f t hf ht]
        congr 1; omega
      · obtain ⟨q1, q2, q3, q4⟩ := y5 r' (by omega) h2
        rw [a3 49 _ (by decide) (by omega)] at q1
        rw [a3 50 _ (by decide) (by omega)] at q2
        refine ⟨q1, q2, q3, fun f t hf ht => ?_⟩
        rw [q4 f t hf ht, a4 f _ hf (by omega)]
theorem n_cp58 {w u p : Nat} (hw : w < 3) (hu : u < 3) (hp : p < 16) (k154 : Int → Int → h_M → Option (Int × h_M)) : ∀ (d j fu : Nat) (m : h_M), j + d = 4 → d < fu → m 100 0 = (w : Int) → ∃ m', GO_Mo_copy_187 k154 fu (u : Int) (p : Int) (j : Int) m = k154 (u : Int) ((p + 1 : Nat) : Int) m' ∧ eM [58] m m' ∧ (∀ x, ¬ (64 * w + 4 * p + j ≤ x ∧ x < 64 * w + 4 * p + 4) → m' 58 x = m 58 x) ∧ (∀ t, j ≤ t → t < 4 → m' 58 (64 * w + 4 * p + t) = m 58 (64 * u + 4 * p + t)) := by
  intro d
  induction d with
  | zero =>
    intro j fu m hd hf e1
    obtain ⟨fu, rfl⟩ : ∃ g, fu = g + 1 := ⟨fu - 1, by omega⟩
    refine ⟨m, ?_, eM.rf _ _, fun _ _ => rfl, fun t h1 h2 => by omega⟩
    show GL_Mo_copy_187 _ _ _ _ _ m = _
    unfold GL_Mo_copy_187
    rw [if_pos (by omega), p_w1 (by omega) (by omega)]
    rfl
  | succ d ih =>
    intro j fu m hd hf e1
    obtain ⟨fu, rfl⟩ : ∃ g, fu = g + 1 := ⟨fu - 1, by omega⟩
    obtain ⟨m', y1, y2, y3, y4⟩ := ih (j + 1) fu (wm m 58 (64 * w + 4 * p + j) (m 58 (64 * u + 4 * p + j))) (by omega) (by omega) (by rw [wm_at, if_neg (by omega)]; exact e1)
    refine ⟨m', ?_, eM.tr (by repeat first | exact eM.rf _ _ | refine eM.wm ?_ (by decide) _ _) y2, fun x hx => ?_, fun t h1 h2 => ?_⟩
    · rw [← y1]
      show GL_Mo_copy_187 _ _ _ _ _ m = _
      unfold GL_Mo_copy_187
      rw [if_neg (by omega), e1, p_w1 (x := 64 * (u : Int)) (by omega) (by omega), p_w1 (x := 4 * (p : Int)) (by omega) (by omega), p_w1 (x := 64 * (u : Int) + 4 * (p : Int)) (by omega) (by omega), p_w1 (x := 64 * (u : Int) + 4 * (p : Int) + (j : Int)) (by omega) (by omega), p_w1 (x := 64 * (w : Int)) (by omega) (by omega), p_w1 (x := 64 * (w : Int) + 4 * (p : Int)) (by omega) (by omega), p_w1 (x := 64 * (w : Int) + 4 * (p : Int) + (j : Int)) (by omega) (by omega), gd1 (by omega), gd1 (by omega), show (64 * (u : Int) + 4 * (p : Int) + (j : Int)).toNat = 64 * u + 4 * p + j by omega, show (64 * (w : Int) + 4 * (p : Int) + (j : Int)).toNat = 64 * w + 4 * p + j by omega, p_w1 (x := (j : Int) + 1) (by omega) (by omega)]
      rfl
    · rw [y3 x (by omega), wm_at, if_neg (by omega)]
    · by_cases z : t = j
      · subst z
        rw [y3 _ (by omega), wm_at, if_pos ⟨rfl, rfl⟩]
      · rw [y4 t (by omega) h2, wm_at, if_neg (by omega)]
theorem n_copyPlans {w u : Nat} (hw : w < 3) (hu : u < 3) : ∀ (d p fu : Nat) (m : h_M), p + d = 16 → d < fu → m 100 0 = (w : Int) → ∃ m', GO_Mo_copy_154 fu (u : Int) (p : Int) m = G_Mo_built (m' 3 w) m' ∧ eM [57, 58] m m' ∧ (∀ x, ¬ (16 * w + p ≤ x ∧ x < 16 * w + 16) → m' 57 x = m 57 x) ∧ (∀ x, ¬ (64 * w + 4 * p ≤ x ∧ x < 64 * w + 64) → m' 58 x = m 58 x) ∧ (∀ q, p ≤ q → q < 16 → m' 57 (16 * w + q) = m 57 (16 * u + q) ∧ ∀ t, t < 4 → m' 58 (64 * w + 4 * q + t) = m 58 (64 * u + 4 * q + t)) := by
  intro d
  induction d with
  | zero =>
    intro p fu m hd hf e1
    obtain ⟨fu, rfl⟩ : ∃ g, fu = g + 1 := ⟨fu - 1, by omega⟩
    refine ⟨m, ?_, eM.rf _ _, fun _ _ => rfl, fun _ _ => rfl, fun q h1 h2 => by omega⟩
    show GL_Mo_copy_154 _ _ _ m = _
    unfold GL_Mo_copy_154
    rw [if_pos (by omega), e1, gd1 (by omega), Int.toNat_natCast, q_eta]
  | succ d ih =>
    intro p fu m hd hf e1
    obtain ⟨fu, rfl⟩ : ∃ g, fu = g + 1 := ⟨fu - 1, by omega⟩
    obtain ⟨m1, a1, a2, a3, a4⟩ := n_cp58 hw hu (p := p) (by omega) (GO_Mo_copy_154 fu) 4 0 3000 (wm m 57 (16 * w + p) (m 57 (16 * u + p))) (by omega) (by omega) (by rw [wm_at, if_neg (by omega)]; exact e1)
    obtain ⟨m', y1, y2, y3, y4, y5⟩ := ih (p + 1) fu m1 (by omega) (by omega) (by rw [a2 100 (by decide), wm_at, if_neg (by omega)]; exact e1)
    have n57 : ∀ x, m1 57 x = if x = 16 * w + p then m 57 (16 * u + p) else m 57 x := fun x => by
      rw [a2 57 (by decide), wm_at]
      by_cases z : x = 16 * w + p
      · rw [if_pos ⟨rfl, z⟩, if_pos z]
      · rw [if_neg (fun q => z q.2), if_neg z]
    have n58 : ∀ x, ¬ (64 * w + 4 * p ≤ x ∧ x < 64 * w + 4 * p + 4) → m1 58 x = m 58 x := fun x hx => by rw [a3 x (by omega), wm_at, if_neg (by omega)]
    refine ⟨m', ?_, (eM.tr (eM.up (l := [57]) (by repeat first | exact eM.rf _ _ | refine eM.wm ?_ (by decide) _ _) (by decide)) (a2.up (by decide))).tr y2, fun x hx => ?_, fun x hx => ?_, fun q h1 h2 => ?_⟩
    · rw [← y1]
      show GL_Mo_copy_154 _ _ _ m = _
      unfold GL_Mo_copy_154
      rw [if_neg (by omega), e1, p_w1 (x := 16 * (u : Int)) (by omega) (by omega), p_w1 (x := 16 * (u : Int) + (p : Int)) (by omega) (by omega), p_w1 (x := 16 * (w : Int)) (by omega) (by omega), p_w1 (x := 16 * (w : Int) + (p : Int)) (by omega) (by omega), gd1 (by omega), gd1 (by omega), show (16 * (u : Int) + (p : Int)).toNat = 16 * u + p by omega, show (16 * (w : Int) + (p : Int)).toNat = 16 * w + p by omega]
      exact a1
    · rw [y3 x (by omega), n57, if_neg (by omega)]
    · rw [y4 x (by omega), n58 x (by omega)]
    · by_cases z : q = p
      · subst z
        refine ⟨by rw [y3 _ (by omega), n57, if_pos rfl], fun t ht => ?_⟩
        rw [y4 _ (by omega), a4 t (by omega) ht, wm_at, if_neg (by omega)]
      · obtain ⟨q1, q2⟩ := y5 q (by omega) h2
        refine ⟨?_, fun t ht => ?_⟩
        · rw [q1, n57]
          by_cases z' : 16 * u + q = 16 * w + p
          · omega
          · rw [if_neg z']
        · rw [q2 t ht, n58 _ (by omega)]
