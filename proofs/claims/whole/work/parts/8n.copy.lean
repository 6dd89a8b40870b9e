/-! ===== copy: the reference ===== -/
/-- frame by rows and places -/
def fMr (f a b : Nat) (m m' : h_M) : Prop := ∀ x, ¬ (a ≤ x ∧ x < b) → m' f x = m f x
theorem n_cp8 {s e : Nat} (hs0 : s < 120) (he0 : e < 120) (hs : s ≠ e) : ∀ (d j fu : Nat) (m : h_M), j + d = 3 → d < fu → ∃ m', GO_Mo_copyGear_61  fu (s : Int) (e : Int) (j : Int) m = GO_Mo_copyGear_94 3000 (s : Int) (e : Int) 0 m' ∧ eM [8] m m' ∧ fMr 8 (3 * e + j) (3 * e + 3) m m' ∧ (∀ t, j ≤ t → t < 3 → m' 8 (3 * e + t) = m 8 (3 * s + t)) := by
  intro d
  induction d with
  | zero =>
    intro j fu m hd hf 
    obtain ⟨fu, rfl⟩ : ∃ g, fu = g + 1 := ⟨fu - 1, by omega⟩
    refine ⟨m, ?_, eM.rf _ _, fun _ _ => rfl, fun t h1 h2 => by omega⟩
    show GL_Mo_copyGear_61  _ (s : Int) (e : Int) _ m = _
    unfold GL_Mo_copyGear_61
    rw [if_pos (by omega)]
  | succ d ih =>
    intro j fu m hd hf 
    obtain ⟨fu, rfl⟩ : ∃ g, fu = g + 1 := ⟨fu - 1, by omega⟩
    obtain ⟨m', y1, y2, y3, y4⟩ := ih (j + 1) fu (wm m 8 (3 * e + j) (m 8 (3 * s + j))) (by omega) (by omega) 
    refine ⟨m', ?_, eM.tr (by repeat first | exact eM.rf _ _ | refine eM.wm ?_ (by decide) _ _) y2, fun x hx => ?_, fun t h1 h2 => ?_⟩
    · rw [← y1]
      show GL_Mo_copyGear_61  _ (s : Int) (e : Int) _ m = _
      unfold GL_Mo_copyGear_61
      rw [if_neg (by omega), p_w1 (x := 3 * (s : Int)) (by omega) (by omega), p_w1 (x := 3 * (s : Int) + (j : Int)) (by omega) (by omega), p_w1 (x := 3 * (e : Int)) (by omega) (by omega), p_w1 (x := 3 * (e : Int) + (j : Int)) (by omega) (by omega), gd1 (by omega), gd1 (by omega), show (3 * (s : Int) + (j : Int)).toNat = 3 * s + j by omega, show (3 * (e : Int) + (j : Int)).toNat = 3 * e + j by omega, p_w1 (x := (j : Int) + 1) (by omega) (by omega)]
      rfl
    · rw [y3 x (by omega), wm_at, if_neg (by omega)]
    · by_cases e : t = j
      · subst e
        rw [y3 _ (by omega), wm_at, if_pos ⟨rfl, rfl⟩]
      · rw [y4 t (by omega) h2, wm_at, if_neg (by omega)]
theorem n_cp11 {s e : Nat} (hs0 : s < 120) (he0 : e < 120) (hs : s ≠ e) : ∀ (d j fu : Nat) (m : h_M), j + d = 2 → d < fu → ∃ m', GO_Mo_copyGear_94  fu (s : Int) (e : Int) (j : Int) m = GO_Mo_copyGear_127 3000 (e : Int) 0 m' ∧ eM [11] m m' ∧ fMr 11 (2 * e + j) (2 * e + 2) m m' ∧ (∀ t, j ≤ t → t < 2 → m' 11 (2 * e + t) = m 11 (2 * s + t)) := by
  intro d
  induction d with
  | zero =>
    intro j fu m hd hf 
    obtain ⟨fu, rfl⟩ : ∃ g, fu = g + 1 := ⟨fu - 1, by omega⟩
    refine ⟨m, ?_, eM.rf _ _, fun _ _ => rfl, fun t h1 h2 => by omega⟩
    show GL_Mo_copyGear_94  _ (s : Int) (e : Int) _ m = _
    unfold GL_Mo_copyGear_94
    rw [if_pos (by omega)]
  | succ d ih =>
    intro j fu m hd hf 
    obtain ⟨fu, rfl⟩ : ∃ g, fu = g + 1 := ⟨fu - 1, by omega⟩
    obtain ⟨m', y1, y2, y3, y4⟩ := ih (j + 1) fu (wm m 11 (2 * e + j) (m 11 (2 * s + j))) (by omega) (by omega) 
    refine ⟨m', ?_, eM.tr (by repeat first | exact eM.rf _ _ | refine eM.wm ?_ (by decide) _ _) y2, fun x hx => ?_, fun t h1 h2 => ?_⟩
    · rw [← y1]
      show GL_Mo_copyGear_94  _ (s : Int) (e : Int) _ m = _
      unfold GL_Mo_copyGear_94
      rw [if_neg (by omega), p_w1 (x := 2 * (s : Int)) (by omega) (by omega), p_w1 (x := 2 * (s : Int) + (j : Int)) (by omega) (by omega), p_w1 (x := 2 * (e : Int)) (by omega) (by omega), p_w1 (x := 2 * (e : Int) + (j : Int)) (by omega) (by omega), gd1 (by omega), gd1 (by omega), show (2 * (s : Int) + (j : Int)).toNat = 2 * s + j by omega, show (2 * (e : Int) + (j : Int)).toNat = 2 * e + j by omega, p_w1 (x := (j : Int) + 1) (by omega) (by omega)]
      rfl
    · rw [y3 x (by omega), wm_at, if_neg (by omega)]
    · by_cases e : t = j
      · subst e
        rw [y3 _ (by omega), wm_at, if_pos ⟨rfl, rfl⟩]
      · rw [y4 t (by omega) h2, wm_at, if_neg (by omega)]
theorem n_zero22 {e : Nat} (he0 : e < 120) : ∀ (d j fu : Nat) (m : h_M), j + d = 8 → d < fu → ∃ m', GO_Mo_copyGear_127 fu (e : Int) (j : Int) m = some m' ∧ eM [22] m m' ∧ fMr 22 (8 * e + j) (8 * e + 8) m m' ∧ (∀ t, j ≤ t → t < 8 → m' 22 (8 * e + t) = 0) := by
  intro d
  induction d with
  | zero =>
    intro j fu m hd hf
    obtain ⟨fu, rfl⟩ : ∃ g, fu = g + 1 := ⟨fu - 1, by omega⟩
    refine ⟨m, ?_, eM.rf _ _, fun _ _ => rfl, fun t h1 h2 => by omega⟩
    show GL_Mo_copyGear_127 _ _ _ m = _
    unfold GL_Mo_copyGear_127
    rw [if_pos (by omega)]
  | succ d ih =>
    intro j fu m hd hf
    obtain ⟨fu, rfl⟩ : ∃ g, fu = g + 1 := ⟨fu - 1, by omega⟩
    obtain ⟨m', y1, y2, y3, y4⟩ := ih (j + 1) fu (wm m 22 (8 * e + j) 0) (by omega) (by omega)
    refine ⟨m', ?_, eM.tr (by repeat first | exact eM.rf _ _ | refine eM.wm ?_ (by decide) _ _) y2, fun x hx => ?_, fun t h1 h2 => ?_⟩
    · rw [← y1]
      show GL_Mo_copyGear_127 _ _ _ m = _
      unfold GL_Mo_copyGear_127
      rw [if_neg (by omega), p_w1 (x := 8 * (e : Int)) (by omega) (by omega), p_w1 (x := 8 * (e : Int) + (j : Int)) (by omega) (by omega), gd1 (by omega), show (8 * (e : Int) + (j : Int)).toNat = 8 * e + j by omega, p_w1 (x := (j : Int) + 1) (by omega) (by omega)]
      rfl
    · rw [y3 x (by omega), wm_at, if_neg (by omega)]
    · by_cases e' : t = j
      · subst e'
        rw [y3 _ (by omega), wm_at, if_pos ⟨rfl, rfl⟩]
      · exact y4 t (by omega) h2
/-- gear e of the reference is built as s is -/
def MC (m m' : h_M) (e s : Nat) : Prop := (m' 5 e = m 5 s ∧ m' 6 e = m 6 s ∧ m' 7 e = m 7 s ∧ m' 9 e = m 9 s ∧ m' 14 e = m 14 s ∧ m' 10 e = 0 ∧ m' 12 e = -1 ∧ m' 13 e = 0 ∧ m' 15 e = 0 ∧ m' 16 e = 0 ∧ m' 17 e = 0 ∧ m' 18 e = 0 ∧ m' 19 e = 0 ∧ m' 20 e = 0 ∧ m' 21 e = 0) ∧ (∀ k, k < 3 → m' 8 (3 * e + k) = m 8 (3 * s + k)) ∧ (∀ k, k < 2 → m' 11 (2 * e + k) = m 11 (2 * s + k)) ∧ (∀ k, k < 8 → m' 22 (8 * e + k) = 0)
def cgM : List Nat := [5, 6, 7, 8, 9, 10, 11, 12, 13, 14, 15, 16, 17, 18, 19, 20, 21, 22]
/-- only gears e .. e' of the reference were touched -/
def gMr (e e' : Nat) (m m' : h_M) : Prop := (∀ f x, f ∈ [5, 6, 7, 9, 10, 12, 13, 14, 15, 16, 17, 18, 19, 20, 21] → (x < e ∨ e' ≤ x) → m' f x = m f x) ∧ (∀ x, (x < 3 * e ∨ 3 * e' ≤ x) → m' 8 x = m 8 x) ∧ (∀ x, (x < 2 * e ∨ 2 * e' ≤ x) → m' 11 x = m 11 x) ∧ (∀ x, (x < 8 * e ∨ 8 * e' ≤ x) → m' 22 x = m 22 x)
theorem n_copyGear {s e : Nat} (hs0 : s < 120) (he0 : e < 120) (hs : s ≠ e) (m : h_M) (h0 : 0 ≤ m 5 s) (h10 : m 5 s ≤ 10) (h14 : m 14 s = 0 ∨ m 14 s = 1) : ∃ m', G_Mo_copyGear (s : Int) (e : Int) m = some m' ∧ eM cgM m m' ∧ gMr e (e + 1) m m' ∧ MC m m' e s := by
  have fr := s_fresh (i := e) he0 h0 h10 m
  generalize hb : bgM m e (m 5 s) = mb at fr
  have bs : ∀ f, f ≠ 11 → mb f s = m f s := fun f hf => by rw [← hb]; unfold bgM; simp [wm_at, hs, hf]
  have b11 : ∀ x, x ≠ 2 * e → x ≠ 2 * e + 1 → mb 11 x = m 11 x := fun x h1 h2 => by rw [← hb]; unfold bgM; simp [wm_at, h1, h2]
  have bn : eM [5, 9, 10, 11, 12, 13, 14, 15, 16, 17, 18, 19, 20, 21] m mb := by rw [← hb]; unfold bgM; exact (by repeat first | exact eM.rf _ _ | refine eM.wm ?_ (by decide) _ _)
  have bx : ∀ f x, f ≠ 11 → x ≠ e → mb f x = m f x := fun f x hf hx => by rw [← hb]; unfold bgM; simp [wm_at, hx, hf]
  generalize hc : wm (wm (wm (wm mb 6 e (m 6 s)) 7 e (m 7 s)) 9 e (m 9 s)) 14 e (m 14 s) = mc
  have cn : eM [6, 7, 9, 14] mb mc := by rw [← hc]; exact (by repeat first | exact eM.rf _ _ | refine eM.wm ?_ (by decide) _ _)
  obtain ⟨m1, a1, a2, a3, a4⟩ := n_cp8 hs0 he0 hs 3 0 3000 mc (by omega) (by omega)
  obtain ⟨m2, b1, b2, b3, b4⟩ := n_cp11 hs0 he0 hs 2 0 3000 m1 (by omega) (by omega)
  obtain ⟨m3, c1, c2, c3, c4⟩ := n_zero22 he0 8 0 3000 m2 (by omega) (by omega)
  have n3 : eM [8, 11, 22] mc m3 := ((a2.up (by decide)).tr (b2.up (by decide))).tr (c2.up (by decide))
  have vb : ∀ f v, bgM m e (m 5 s) f e = v → mb f e = v := fun f v h => by rw [← hb]; exact h
  refine ⟨m3, ?_, ((bn.up (by decide)).tr (cn.up (by decide))).tr (n3.up (by decide)), ⟨fun f x hf hx => ?_, fun x hx => ?_, fun x hx => ?_, fun x hx => ?_⟩, ⟨?_, fun k hk => ?_, fun k hk => ?_, fun k hk => c4 k (by omega) hk⟩⟩
  · unfold G_Mo_copyGear
    rw [gd1 (by omega), Int.toNat_natCast, fr, q_some, gd1 (by omega), Int.toNat_natCast]
    have r1 : mb 6 s = m 6 s := bs 6 (by decide)
    have r2 : (wm mb 6 e (m 6 s)) 7 s = m 7 s := by rw [wm_at, if_neg (by omega)]; exact bs 7 (by decide)
    have r3 : (wm (wm mb 6 e (m 6 s)) 7 e (m 7 s)) 9 s = m 9 s := by rw [wm_at, if_neg (by omega), wm_at, if_neg (by omega)]; exact bs 9 (by decide)
    have r4 : (wm (wm (wm mb 6 e (m 6 s)) 7 e (m 7 s)) 9 e (m 9 s)) 14 s = m 14 s := by rw [wm_at, if_neg (by omega), wm_at, if_neg (by omega), wm_at, if_neg (by omega)]; exact bs 14 (by decide)
    rw [r1, bi1, r2, bi1, r3, bi1, r4, gd1 h14, bi1, hc]
    have a1' : GO_Mo_copyGear_61 3000 (s : Int) (e : Int) 0 mc = GO_Mo_copyGear_94 3000 (s : Int) (e : Int) 0 m1 := a1
    have b1' : GO_Mo_copyGear_94 3000 (s : Int) (e : Int) 0 m1 = GO_Mo_copyGear_127 3000 (e : Int) 0 m2 := b1
    rw [a1', b1']
    exact c1
  · have hf' : f ≠ 8 ∧ f ≠ 11 ∧ f ≠ 22 := by revert hf; revert f; decide
    have hx' : x ≠ e := by omega
    rw [n3 f (by simp [hf']), ← hc]
    simp only [wm_at]
    rw [if_neg (fun z => hx' z.2), if_neg (fun z => hx' z.2), if_neg (fun z => hx' z.2), if_neg (fun z => hx' z.2)]
    exact bx f x hf'.2.1 hx'
  · rw [c2 8 (by decide), b2 8 (by decide), a3 x (by omega), cn 8 (by decide), bn 8 (by decide)]
  · rw [c2 11 (by decide), b3 x (by omega), a2 11 (by decide), cn 11 (by decide), b11 x (by omega) (by omega)]
  · rw [c3 x (by omega), b2 22 (by decide), a2 22 (by decide), cn 22 (by decide), bn 22 (by decide)]
  · rw [n3 5 (by decide), n3 6 (by decide), n3 7 (by decide), n3 9 (by decide), n3 14 (by decide), n3 10 (by decide), n3 12 (by decide), n3 13 (by decide), n3 15 (by decide), n3 16 (by decide), n3 17 (by decide), n3 18 (by decide), n3 19 (by decide), n3 20 (by decide), n3 21 (by decide), ← hc]
    refine ⟨?_, by simp [wm_at], by simp [wm_at], by simp [wm_at], by simp [wm_at], ?_, ?_, ?_, ?_, ?_, ?_, ?_, ?_, ?_, ?_⟩
    all_goals (simp only [wm_at, show ¬ ((5 : Nat) = 14) by decide, show ¬ ((5 : Nat) = 9) by decide, show ¬ ((5 : Nat) = 7) by decide, show ¬ ((5 : Nat) = 6) by decide, false_and, if_false]; rw [← hb]; unfold bgM; simp [wm_at])
  · rw [c2 8 (by decide), b2 8 (by decide), a4 k (by omega) hk, cn 8 (by decide), bn 8 (by decide)]
  · rw [c2 11 (by decide), b4 k (by omega) hk, a2 11 (by decide), cn 11 (by decide), b11 _ (by omega) (by omega)]
/-- all gears -/
theorem n_copyGears {w u : Nat} (hw : w < 3) (hu : u < 3) {n : Nat} (hn : n ≤ 40) (hne : u ≠ w ∨ n = 0) : ∀ (d g fu : Nat) (m : h_M), g + d = n → d < fu → m 100 0 = (w : Int) → m 3 u = (n : Int) → (∀ i, 0 ≤ m 5 i ∧ m 5 i ≤ 10 ∧ (m 14 i = 0 ∨ m 14 i = 1)) → ∃ m', GO_Mo_copy_39 fu (u : Int) (g : Int) m = GL_Mo_copy_39 (fun _ _ _ => none) (u : Int) (n : Int) m' ∧ eM cgM m m' ∧ gMr (40 * w + g) (40 * w + n) m m' ∧ (∀ g', g ≤ g' → g' < n → MC m m' (40 * w + g') (40 * u + g')) := by
  intro d
  induction d with
  | zero =>
    intro g fu m hd hf e1 e3 hk
    obtain ⟨fu, rfl⟩ : ∃ g, fu = g + 1 := ⟨fu - 1, by omega⟩
    have eg : g = n := by omega
    subst eg
    refine ⟨m, ?_, eM.rf _ _, ⟨fun _ _ _ _ => rfl, fun _ _ => rfl, fun _ _ => rfl, fun _ _ => rfl⟩, fun g' h1 h2 => by omega⟩
    show GL_Mo_copy_39 _ _ _ m = _
    unfold GL_Mo_copy_39
    simp only [gd1 (show (0 : Int) ≤ (u : Int) ∧ (u : Int) < 3 by omega), Int.toNat_natCast, e3]
    rw [if_pos (by omega), if_pos (by omega)]
  | succ d ih =>
    intro g fu m hd hf e1 e3 hk
    obtain ⟨fu, rfl⟩ : ∃ g, fu = g + 1 := ⟨fu - 1, by omega⟩
    have huw : u ≠ w := by omega
    obtain ⟨z0, z1, z2⟩ := hk (40 * u + g)
    obtain ⟨m1, a1, a2, a3, a4⟩ := n_copyGear (s := 40 * u + g) (e := 40 * w + g) (by omega) (by omega) (by omega) m z0 z1 z2
    have k1 : ∀ i, 0 ≤ m1 5 i ∧ m1 5 i ≤ 10 ∧ (m1 14 i = 0 ∨ m1 14 i = 1) := fun i => by
      by_cases e : i = 40 * w + g
      · rw [e, a4.1.1, a4.1.2.2.2.2.1]; exact hk _
      · rw [a3.1 5 i (by decide) (by omega), a3.1 14 i (by decide) (by omega)]; exact hk i
    obtain ⟨m', y1, y2, y3, y4⟩ := ih (g + 1) fu m1 (by omega) (by omega) (by rw [a2 100 (by decide)]; exact e1) (by rw [a2 3 (by decide)]; exact e3) k1
    refine ⟨m', ?_, a2.tr y2, ⟨fun f x hf hx => ?_, fun x hx => ?_, fun x hx => ?_, fun x hx => ?_⟩, fun g' h1 h2 => ?_⟩
    · rw [← y1]
      show GL_Mo_copy_39 _ _ _ m = _
      unfold GL_Mo_copy_39
      rw [gd1 (by omega), Int.toNat_natCast, e3, if_neg (by omega), s_g hw e1 (by omega), q_some, p_w1 (x := 40 * (u : Int)) (by omega) (by omega), p_w1 (x := 40 * (u : Int) + (g : Int)) (by omega) (by omega), show 40 * (u : Int) + (g : Int) = ((40 * u + g : Nat) : Int) by omega, a1, q_some, p_w1 (by omega) (by omega)]
      rfl
    · rw [y3.1 f x hf (by omega), a3.1 f x hf (by omega)]
    · rw [y3.2.1 x (by omega), a3.2.1 x (by omega)]
    · rw [y3.2.2.1 x (by omega), a3.2.2.1 x (by omega)]
    · rw [y3.2.2.2 x (by omega), a3.2.2.2 x (by omega)]
    · by_cases e : g' = g
      · subst e
        obtain ⟨q1, q2, q3, q4⟩ := a4
        have yf : ∀ f, f ∈ [5, 6, 7, 9, 10, 12, 13, 14, 15, 16, 17, 18, 19, 20, 21] → m' f (40 * w + g') = m1 f (40 * w + g') := fun f hf => y3.1 f _ hf (by omega)
        refine ⟨?_, fun k hk => by rw [y3.2.1 _ (by omega)]; exact q2 k hk, fun k hk => by rw [y3.2.2.1 _ (by omega)]; exact q3 k hk, fun k hk => by rw [y3.2.2.2 _ (by omega)]; exact q4 k hk⟩
        rw [yf 5 (by decide), yf 6 (by decide), yf 7 (by decide), yf 9 (by decide), yf 14 (by decide), yf 10 (by decide), yf 12 (by decide), yf 13 (by decide), yf 15 (by decide), yf 16 (by decide), yf 17 (by decide), yf 18 (by decide), yf 19 (by decide), yf 20 (by decide), yf 21 (by decide)]
        exact q1
      · obtain ⟨q1, q2, q3, q4⟩ := y4 g' (by omega) h2
        have xf : ∀ f, f ∈ [5, 6, 7, 9, 10, 12, 13, 14, 15, 16, 17, 18, 19, 20, 21] → m1 f (40 * u + g') = m f (40 * u + g') := fun f hf => a3.1 f _ hf (by omega)
        refine ⟨?_, fun k hk => by rw [q2 k hk, a3.2.1 _ (by omega)], fun k hk => by rw [q3 k hk, a3.2.2.1 _ (by omega)], q4⟩
        rw [xf 5 (by decide), xf 6 (by decide), xf 7 (by decide), xf 9 (by decide), xf 14 (by decide)] at q1
        exact q1
