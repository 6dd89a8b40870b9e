/-! ===== load ===== -/
/-- all rules, in both -/
theorem j_rules {L : Nat → Int} {n : Nat} : ∀ (d r fu fm p : Nat) (c : h_C) (m : h_M), r + d = 12 → d + 1 < fu → d + 2 < fm → JC c L n p (tW (vw m) 0 r) → JM m L n p → (∀ k, k < r → RS1 c m k) → (∃ q c' m' x, q ≤ 200 ∧ GO_Judge_wrongPlace_25 fu (r : Int) c = some (((q : Nat) : Int), c') ∧ GO_Mo_load_11 fm (r : Int) 1 1 m = GB_Mo_load_48 x 0 m' ∧ m' 169 0 = (q : Int) ∧ eC [500, 2020, 2021, 2022, 2023, 2024, 2025, 2026, 508, 1003] c c' ∧ (∀ f x, f ∈ [500, 2020, 2021, 2022, 2023, 2024, 2025, 2026, 508] → x ≠ 3 → c' f x = c f x) ∧ eM ljM m m') ∨ (∃ k c' m', GO_Judge_wrongPlace_25 fu (r : Int) c = some (-1, c') ∧ GO_Mo_load_11 fm (r : Int) 1 1 m = GB_Mo_load_48 ((k : Nat) : Int) 1 m' ∧ k ≤ 12 ∧ c' 500 3 0 = (k : Int) ∧ (∀ j, j < k → RS1 c' m' j) ∧ JC c' L n n (tW (vw m') 0 k) ∧ eC [500, 2020, 2021, 2022, 2023, 2024, 2025, 2026, 508, 1003] c c' ∧ (∀ f x, f ∈ [500, 2020, 2021, 2022, 2023, 2024, 2025, 2026, 508] → x ≠ 3 → c' f x = c f x) ∧ eM ljM m m') := by
  intro d
  induction d with
  | zero =>
    intro r fu fm p c m hd hf hf' h g hs
    obtain ⟨fu, rfl⟩ : ∃ g, fu = g + 1 := ⟨fu - 1, by omega⟩
    obtain ⟨fm, rfl⟩ : ∃ g, fm = g + 2 := ⟨fm - 2, by omega⟩
    have er : r = 12 := by omega
    subst er
    refine Or.inl ⟨p, c, wm m 169 0 (p : Int), p_w (((12 : Nat) : Int) + 1), Nat.le_trans h.2.2.1 h.2.2.2.1, ?_, ?_, by simp [wm_at], eC.rf _ _, fun _ _ _ _ => rfl, eM.up (l := [169]) (by repeat first | exact eM.rf _ _ | refine eM.wm ?_ (by decide) _ _) (by decide)⟩
    · show GL_Judge_wrongPlace_25 _ _ c = _
      unfold GL_Judge_wrongPlace_25
      rw [if_pos (by omega), h.1.2.1]
    · have hr0 : G_Mo_rule_0 ((12 : Nat) : Int) m = some (0, wm m 169 0 (p : Int)) := by
        unfold G_Mo_rule_0 G_Mo_wrong
        rw [if_neg (by decide), g.2.1, bi1, q_some2, gd1 (by decide)]
      have nx : ∀ y : Int, GO_Mo_load_11 (fm + 1) (p_w (((12 : Nat) : Int) + 1)) 0 y (wm m 169 0 (p : Int)) = GB_Mo_load_48 (p_w (((12 : Nat) : Int) + 1)) 0 (wm m 169 0 (p : Int)) := fun y => by
        show GL_Mo_load_11 _ _ _ _ _ = _
        unfold GL_Mo_load_11
        rw [if_pos rfl]
      show GL_Mo_load_11 _ _ _ _ m = _
      unfold GL_Mo_load_11 GB_Mo_load_44
      rw [if_neg (by decide), if_neg (by decide), hr0, q_some2, bi1, nx, nx]
      split <;> rfl
  | succ d ih =>
    intro r fu fm p c m hd hf hf' h g hs
    obtain ⟨fu, rfl⟩ : ∃ g, fu = g + 1 := ⟨fu - 1, by omega⟩
    obtain ⟨fm, rfl⟩ : ∃ g, fm = g + 2 := ⟨fm - 2, by omega⟩
    have ex : p_w ((r : Int) + 1) = ((r + 1 : Nat) : Int) := by rw [p_w1 (by omega) (by omega)]; omega
    rcases j_rule (r := r) (by omega) (fun k hk => (hs k hk).2.1.2.2) h g with ⟨c1, m1, a1, a2, ⟨q, aq, a3, a3'⟩, a4, a5⟩ | ⟨c1, m1, p1, a1, a2, a3, a4, a5, a6, a7⟩
    · refine Or.inl ⟨q, c1, m1, ((r + 1 : Nat) : Int), aq, ?_, ?_, a3', a4.1.up (by decide), fun f x hf hx => ?_, a5⟩
      · show GL_Judge_wrongPlace_25 _ _ c = _
        unfold GL_Judge_wrongPlace_25
        rw [if_neg (by omega), a1, q_some2, if_neg (by decide), a3]
      · have nx : ∀ y : Int, GO_Mo_load_11 (fm + 1) ((r + 1 : Nat) : Int) 0 y m1 = GB_Mo_load_48 ((r + 1 : Nat) : Int) 0 m1 := fun y => by
          show GL_Mo_load_11 _ _ _ _ _ = _
          unfold GL_Mo_load_11
          rw [if_pos rfl]
        show GL_Mo_load_11 _ _ _ _ m = _
        unfold GL_Mo_load_11 GB_Mo_load_44
        rw [if_neg (by decide), if_neg (by decide), a2, q_some2, ex, bi1, nx, nx]
        split <;> rfl
      · by_cases z : f = 500
        · rw [z, a4.1 500 (by decide)]
        · exact a4.2 f x (by simp only [List.mem_cons, List.not_mem_nil, or_false] at hf ⊢; omega) hx
    · generalize ec2 : wc c1 500 3 0 ((r + 1 : Nat) : Int) = c2
      have n2 : eC [500] c1 c2 := by rw [← ec2]; exact (by repeat first | exact eC.rf _ _ | refine eC.wc ?_ (by decide) _ _ _ | refine eC.sr ?_ (by decide) _ _)
      have j2 : JC c2 L n p1 (tW (vw m1) 0 (r + 1)) := by rw [← ec2]; exact a3.wc (by decide) _ _ _
      have s2 : ∀ k, k < r + 1 → RS1 c2 m1 k := fun k hk => by
        by_cases z : k = r
        · rw [z]
          unfold RS1 TS at a7 ⊢
          rw [n2 2020 (by decide), n2 2021 (by decide), n2 2022 (by decide), n2 2023 (by decide), n2 2024 (by decide), n2 2025 (by decide)]
          exact a7
        · have o := hs k (by omega)
          obtain ⟨o1, o2, o3⟩ := o
          have e62 : m1 62 k = m 62 k := a6.2.1 62 k (by decide) z
          have e63 : m1 63 k = m 63 k := a6.2.1 63 k (by decide) z
          refine ⟨?_, ?_, fun t ht ht' => ?_⟩
          · rw [n2 2020 (by decide), a5.2.2.1 2020 k (by decide) z, e62]; exact o1
          · rw [n2 2021 (by decide), a5.2.2.1 2021 k (by decide) z, e63]; exact o2
          · rw [e63] at ht'
            have o4 := o3 t ht ht'
            unfold TS at o4 ⊢
            rw [n2 2022 (by decide), n2 2023 (by decide), n2 2024 (by decide), n2 2025 (by decide), a5.2.2.2 2022 _ (by decide) (by omega), a5.2.2.2 2023 _ (by decide) (by omega), a5.2.2.2 2024 _ (by decide) (by omega), a5.2.2.2 2025 _ (by decide) (by omega), a6.2.2 64 _ (by decide) (by omega), a6.2.2 65 _ (by decide) (by omega), a6.2.2 66 _ (by decide) (by omega), a6.2.2 67 _ (by decide) (by omega)]
            exact o4
      have fr : eC [500, 2020, 2021, 2022, 2023, 2024, 2025, 2026, 508, 1003] c c2 ∧ (∀ f x, f ∈ [500, 2020, 2021, 2022, 2023, 2024, 2025, 2026, 508] → x ≠ 3 → c2 f x = c f x) := by
        refine ⟨(a5.1.up (by decide)).tr (n2.up (by decide)), fun f x hf hx => ?_⟩
        by_cases z : f = 500
        · rw [z, ← ec2]
          funext k
          rw [wc_at, if_neg (fun q => hx q.2.1), a5.1 500 (by decide)]
        · rw [n2 f (by simpa using z)]
          exact a5.2.1 f x (by simp only [List.mem_cons, List.not_mem_nil, or_false] at hf ⊢; omega) hx
      have hC : ∀ X, (if ((p1 : Nat) : Int) ≠ (n : Int) then GO_Judge_wrongPlace_25 fu ((r + 1 : Nat) : Int) c2 else some (-1, c2)) = X → GO_Judge_wrongPlace_25 (fu + 1) (r : Int) c = X := fun X hX => by
        show GL_Judge_wrongPlace_25 _ _ c = _
        unfold GL_Judge_wrongPlace_25
        rw [if_neg (by omega), a1, q_some2, if_pos (by decide), ex, ec2, bi1, j2.1.2.1, j2.1.1, bi1]
        exact hX
      have hM : ∀ X, (if ((n : Nat) : Int) ≤ (p1 : Int) then GO_Mo_load_11 (fm + 1) ((r + 1 : Nat) : Int) 1 0 m1 else GO_Mo_load_11 (fm + 1) ((r + 1 : Nat) : Int) 1 1 m1) = X → GO_Mo_load_11 (fm + 2) (r : Int) 1 1 m = X := fun X hX => by
        show GL_Mo_load_11 _ _ _ _ m = _
        unfold GL_Mo_load_11 GB_Mo_load_44
        rw [if_neg (by decide), if_neg (by decide), a2, q_some2, ex, bi1, a4.1, a4.2.1]
        exact hX
      have p1n := j2.2.2.1
      by_cases e : p1 = n
      · subst e
        refine Or.inr ⟨r + 1, c2, m1, hC _ (by rw [if_neg (by simp)]), hM _ ?_, by omega, by rw [← ec2]; simp [wc_at], s2, j2, fr.1, fr.2, a6.1⟩
        rw [if_pos (by omega)]
        show GL_Mo_load_11 _ _ _ _ m1 = _
        unfold GL_Mo_load_11
        rw [if_neg (by decide), if_pos rfl]
      · rcases ih (r + 1) fu (fm + 1) p1 c2 m1 (by omega) (by omega) (by omega) j2 a4 s2 with ⟨q, c', m', x, b0, b1, b2, b3, b4, b5, b6⟩ | ⟨k, c', m', b1, b2, b3, b4, b5, b6, b7, b8, b9⟩
        · exact Or.inl ⟨q, c', m', x, b0, hC _ (by rw [if_pos (by omega)]; exact b1), hM _ (by rw [if_neg (by omega)]; exact b2), b3, fr.1.tr b4, fun f x hf hx => (b5 f x hf hx).trans (fr.2 f x hf hx), a6.1.tr b6⟩
        · exact Or.inr ⟨k, c', m', hC _ (by rw [if_pos (by omega)]; exact b1), hM _ (by rw [if_neg (by omega)]; exact b2), b3, b4, b5, b6, fr.1.tr b7, fun f x hf hx => (b8 f x hf hx).trans (fr.2 f x hf hx), a6.1.tr b9⟩
/-- the reference stores what it has read -/
theorem n_ldTests {s e : Nat} (hs0 : s < 12) (he0 : e < 36) (k82 : Int → Int → h_M → Option (Int × h_M)) (v1 : Int) : ∀ (d j fu : Nat) (m : h_M), j + d = 4 → d < fu → ∃ m', GO_Mo_load_139 k82 fu v1 (s : Int) (e : Int) (j : Int) m = k82 v1 ((s + 1 : Nat) : Int) m' ∧ eM [52, 53, 54, 55] m m' ∧ (∀ f x, f ∈ [52, 53, 54, 55] → ¬ (4 * e + j ≤ x ∧ x < 4 * e + 4) → m' f x = m f x) ∧ (∀ t, j ≤ t → t < 4 → m' 52 (4 * e + t) = m 64 (4 * s + t) ∧ m' 53 (4 * e + t) = m 65 (4 * s + t) ∧ m' 54 (4 * e + t) = m 66 (4 * s + t) ∧ m' 55 (4 * e + t) = m 67 (4 * s + t)) := by
  intro d
  induction d with
  | zero =>
    intro j fu m hd hf
    obtain ⟨fu, rfl⟩ : ∃ g, fu = g + 1 := ⟨fu - 1, by omega⟩
    refine ⟨m, ?_, eM.rf _ _, fun _ _ _ _ => rfl, fun t h1 h2 => by omega⟩
    show GL_Mo_load_139 _ _ _ _ _ _ m = _
    unfold GL_Mo_load_139
    rw [if_pos (by omega), p_w1 (by omega) (by omega)]
    rfl
  | succ d ih =>
    intro j fu m hd hf
    obtain ⟨fu, rfl⟩ : ∃ g, fu = g + 1 := ⟨fu - 1, by omega⟩
    generalize hm1 : wm (wm (wm (wm m 52 (4 * e + j) (m 64 (4 * s + j))) 53 (4 * e + j) (m 65 (4 * s + j))) 54 (4 * e + j) (m 66 (4 * s + j))) 55 (4 * e + j) (m 67 (4 * s + j)) = m1
    have n1 : eM [52, 53, 54, 55] m m1 := by rw [← hm1]; exact (by repeat first | exact eM.rf _ _ | refine eM.wm ?_ (by decide) _ _)
    have at1 : ∀ f x, f ∈ [52, 53, 54, 55] → x ≠ 4 * e + j → m1 f x = m f x := fun f x _ hx => by
      rw [← hm1]
      simp [wm_at, hx]
    obtain ⟨m', y1, y2, y3, y4⟩ := ih (j + 1) fu m1 (by omega) (by omega)
    refine ⟨m', ?_, n1.tr y2, fun f x hf hx => ?_, fun t h1 h2 => ?_⟩
    · rw [← y1]
      show GL_Mo_load_139 _ _ _ _ _ _ m = _
      unfold GL_Mo_load_139
      rw [if_neg (by omega), p_w1 (x := 4 * (s : Int)) (by omega) (by omega), p_w1 (x := 4 * (s : Int) + (j : Int)) (by omega) (by omega), p_w1 (x := 4 * (e : Int)) (by omega) (by omega), p_w1 (x := 4 * (e : Int) + (j : Int)) (by omega) (by omega), gd1 (by omega), gd1 (by omega), show (4 * (s : Int) + (j : Int)).toNat = 4 * s + j by omega, show (4 * (e : Int) + (j : Int)).toNat = 4 * e + j by omega, p_w1 (x := (j : Int) + 1) (by omega) (by omega)]
      simp only [bi1, wm_at, show ¬ ((65 : Nat) = 52) by decide, show ¬ ((66 : Nat) = 52) by decide, show ¬ ((66 : Nat) = 53) by decide, show ¬ ((67 : Nat) = 52) by decide, show ¬ ((67 : Nat) = 53) by decide, show ¬ ((67 : Nat) = 54) by decide, false_and, if_false]
      rw [hm1]
      rfl
    · rw [y3 f x hf (by omega), at1 f x hf (by omega)]
    · by_cases z : t = j
      · subst z
        rw [y3 52 _ (by decide) (by omega), y3 53 _ (by decide) (by omega), y3 54 _ (by decide) (by omega), y3 55 _ (by decide) (by omega), ← hm1]
        simp [wm_at]
      · have := y4 t (by omega) h2
        rw [n1 64 (by decide), n1 65 (by decide), n1 66 (by decide), n1 67 (by decide)] at this
        exact this
theorem n_ldRules {w : Nat} (hw : w < 3) {n : Nat} (hn : n ≤ 12) : ∀ (d r fu : Nat) (m : h_M), r + d = n → d < fu → m 100 0 = (w : Int) → ∃ m', GO_Mo_load_82 fu (n : Int) (r : Int) m = G_Mo_built (n : Int) m' ∧ eM crM m m' ∧ (∀ f x, f ∈ [49, 50, 51] → ¬ (12 * w + r ≤ x ∧ x < 12 * w + n) → m' f x = m f x) ∧ (∀ f x, f ∈ [52, 53, 54, 55] → ¬ (48 * w + 4 * r ≤ x ∧ x < 48 * w + 4 * n) → m' f x = m f x) ∧ (∀ r', r ≤ r' → r' < n → m' 49 (12 * w + r') = m 62 r' ∧ m' 50 (12 * w + r') = m 63 r' ∧ m' 51 (12 * w + r') = 0 ∧ (∀ t, t < 4 → m' 52 (48 * w + 4 * r' + t) = m 64 (4 * r' + t) ∧ m' 53 (48 * w + 4 * r' + t) = m 65 (4 * r' + t) ∧ m' 54 (48 * w + 4 * r' + t) = m 66 (4 * r' + t) ∧ m' 55 (48 * w + 4 * r' + t) = m 67 (4 * r' + t))) := by
  intro d
  induction d with
  | zero =>
    intro r fu m hd hf e1
    obtain ⟨fu, rfl⟩ : ∃ g, fu = g + 1 := ⟨fu - 1, by omega⟩
    refine ⟨m, ?_, eM.rf _ _, fun _ _ _ _ => rfl, fun _ _ _ _ => rfl, fun r' h1 h2 => by omega⟩
    show GL_Mo_load_82 _ _ _ m = _
    unfold GL_Mo_load_82
    rw [if_pos (by omega), q_eta]
  | succ d ih =>
    intro r fu m hd hf e1
    obtain ⟨fu, rfl⟩ : ∃ g, fu = g + 1 := ⟨fu - 1, by omega⟩
    generalize hm1 : wm (wm (wm m 49 (12 * w + r) (m 62 r)) 50 (12 * w + r) (m 63 r)) 51 (12 * w + r) 0 = m1
    have n1 : eM [49, 50, 51] m m1 := by rw [← hm1]; exact (by repeat first | exact eM.rf _ _ | refine eM.wm ?_ (by decide) _ _)
    have at1 : ∀ f x, x ≠ 12 * w + r → m1 f x = m f x := fun f x hx => by rw [← hm1]; simp [wm_at, hx]
    obtain ⟨m2, a1, a2, a3, a4⟩ := n_ldTests (s := r) (e := 12 * w + r) (by omega) (by omega) (GO_Mo_load_82 fu) (n : Int) 4 0 3000 m1 (by omega) (by omega)
    have n2 : eM crM m m2 := (n1.up (by decide)).tr (a2.up (by decide))
    obtain ⟨m', y1, y2, y3, y4, y5⟩ := ih (r + 1) fu m2 (by omega) (by omega) (by rw [n2 100 (by decide)]; exact e1)
    refine ⟨m', ?_, n2.tr y2, fun f x hf hx => ?_, fun f x hf hx => ?_, fun r' h1 h2 => ?_⟩
    · rw [← y1]
      show GL_Mo_load_82 _ _ _ m = _
      unfold GL_Mo_load_82
      rw [if_neg (by omega), e1, p_w1 (x := 12 * (w : Int)) (by omega) (by omega), p_w1 (x := 12 * (w : Int) + (r : Int)) (by omega) (by omega), bi1, gd1 (by omega), gd1 (by omega), Int.toNat_natCast, show (12 * (w : Int) + (r : Int)).toNat = 12 * w + r by omega, bi1, show (wm m 49 (12 * w + r) (m 62 r)) 63 r = m 63 r by rw [wm_at, if_neg (by omega)], bi1, bi1, hm1, show 12 * (w : Int) + (r : Int) = ((12 * w + r : Nat) : Int) by omega]
      exact a1
    · rw [y3 f x hf (by omega), a2 f (by revert hf; revert f; decide), at1 f x (by omega)]
    · rw [y4 f x hf (by omega), a3 f x hf (by omega), n1 f (by revert hf; revert f; decide)]
    · by_cases z : r' = r
      · subst z
        rw [y3 49 _ (by decide) (by omega), y3 50 _ (by decide) (by omega), y3 51 _ (by decide) (by omega), a2 49 (by decide), a2 50 (by decide), a2 51 (by decide), ← hm1]
        refine ⟨by simp [wm_at], by simp [wm_at], by simp [wm_at], fun t ht => ?_⟩
        rw [y4 52 _ (by decide) (by omega), y4 53 _ (by decide) (by omega), y4 54 _ (by decide) (by omega), y4 55 _ (by decide) (by omega), show 48 * w + 4 * r' + t = 4 * (12 * w + r') + t by omega]
        have := a4 t (by omega) ht
        rw [n1 64 (by decide), n1 65 (by decide), n1 66 (by decide), n1 67 (by decide)] at this
        exact this
      · have := y5 r' (by omega) h2
        rw [n2 62 (by decide), n2 63 (by decide), n2 64 (by decide), n2 65 (by decide), n2 66 (by decide), n2 67 (by decide)] at this
        exact this
theorem pr_load {b : Nat} {c : h_C} {m : h_M} (h : RR b c m) (hE : c 607 0 0 = m 102 0) : PR b (G_SW_load c) (G_Mo_load m) := by
  obtain ⟨w, hw, e1, e2⟩ := h.w
  have w3 : (0 : Int) ≤ (w : Int) ∧ (w : Int) < 3 := by omega
  have hA := h.A
  obtain ⟨A1, A2, A3, A4, A5, A6, A7, A8, A9, A10⟩ := id hA
  obtain ⟨n, hn⟩ : ∃ n : Nat, m 147 0 = (n : Int) := ⟨(m 147 0).toNat, by omega⟩
  -- the beginning
  generalize hc1 : wc (wc (wc (wc c 5004 0 0 1) 1002 0 0 (n : Int)) 1003 0 0 0) 508 3 0 0 = c1
  generalize hm1 : wm m 168 0 0 = m1
  have nc1 : eC [5004, 1002, 1003, 508] c c1 := by rw [← hc1]; exact (by repeat first | exact eC.rf _ _ | refine eC.wc ?_ (by decide) _ _ _ | refine eC.sr ?_ (by decide) _ _)
  have nm1 : eM [168] m m1 := by rw [← hm1]; exact (by repeat first | exact eM.rf _ _ | refine eM.wm ?_ (by decide) _ _)
  have x508 : ∀ x, x ≠ 3 → c1 508 x = c 508 x := fun x hx => by
    funext k
    rw [← hc1, wc_at, if_neg (fun z => hx z.2.1), wc_ne (by decide), wc_ne (by decide), wc_ne (by decide)]
  have j1 : JC c1 (m 46) n 0 (tW (vw m1) 0 0) := by
    refine ⟨⟨by rw [← hc1]; simp [wc_at], by rw [← hc1]; simp [wc_at], by rw [← hc1]; simp [wc_at], ?_⟩, ⟨by rw [← hc1]; simp [wc_at, tW], fun i hi => by simp [tW] at hi⟩, by omega, by omega, Nat.le_refl _⟩
    rw [nc1 2042 (by decide)]
    funext k
    exact A9 k
  have g1 : JM m1 (m 46) n 0 := ⟨by rw [nm1 147 (by decide)]; exact hn, by rw [← hm1]; simp [wm_at], by rw [nm1 46 (by decide)]⟩
  -- what RU needs of the class's rows
  have frU : ∀ (c2 : h_C), eC [500, 2020, 2021, 2022, 2023, 2024, 2025, 2026, 508, 1003] c1 c2 → (∀ f x, f ∈ [500, 2020, 2021, 2022, 2023, 2024, 2025, 2026, 508] → x ≠ 3 → c2 f x = c1 f x) → eC [5004, 1002, 1003, 500, 2020, 2021, 2022, 2023, 2024, 2025, 2026, 508] c c2 ∧ (∀ f x, f ∈ [500, 2020, 2021, 2022, 2023, 2024, 2025, 2026, 508] → x ≠ 3 → c2 f x = c f x) := fun c2 a b => by
    refine ⟨(nc1.up (by decide)).tr (a.up (by decide)), fun f x hf hx => ?_⟩
    rw [b f x hf hx]
    by_cases z : f = 508
    · rw [z]; exact x508 x hx
    · rw [nc1 f (by simp only [List.mem_cons, List.not_mem_nil, or_false] at hf ⊢; omega)]
  have hwp : G_Judge_wrongPlace (c 606 0 0) c = GO_Judge_wrongPlace_25 3000 0 c1 := by
    unfold G_Judge_wrongPlace
    rw [A6, hn, bi1, bi1, bi1, bi1, hc1]
  unfold G_SW_load G_Mo_load
  rw [hwp, hm1, bi1]
  rcases j_rules 12 0 3000 3000 0 c1 m1 (by omega) (by omega) (by omega) j1 g1 (fun k hk => by omega) with ⟨q, c2, m2, x, b0, b1, b2, b3, b4, b5, b6⟩ | ⟨k, c2, m2, b1, b2, b3, b4, b5, b6, b7, b8, b9⟩
  · -- refused
    obtain ⟨f1, f2⟩ := frU c2 b4 b5
    have nm2 : eM (168 :: ljM) m m2 := (nm1.up (by decide)).tr (b6.up (by decide))
    have nC : eC [5004, 1002, 1003, 500, 2020, 2021, 2022, 2023, 2024, 2025, 2026, 508, 606] c (wc c2 606 0 0 0) := (f1.up (by decide)).tr (eC.up (l := [606]) (by repeat first | exact eC.rf _ _ | refine eC.wc ?_ (by decide) _ _ _ | refine eC.sr ?_ (by decide) _ _) (by decide))
    have nM : eM [62, 63, 64, 65, 66, 67, 168, 169, 170, 147] m (wm m2 147 0 0) := (nm2.up (by decide)).tr (eM.up (l := [147]) (by repeat first | exact eM.rf _ _ | refine eM.wm ?_ (by decide) _ _) (by decide))
    have hA' : RA (wc c2 606 0 0 0) (wm m2 147 0 0) := by
      unfold RA
      rw [nC 5000 (by decide), nC 608 (by decide), nC 2042 (by decide), nC 200 (by decide), nM 100 (by decide), nM 101 (by decide), nM 102 (by decide), nM 46 (by decide)]
      refine ⟨A1, A2, A3, A4, A5, by simp [wc_at, wm_at], by simp [wm_at], by simp [wm_at], A9, A10⟩
    have hU' : RU (wc c2 606 0 0 0) (wm m2 147 0 0) := fun w' hw' => by
      have e : ∀ f, f ∈ [500, 2020, 2021, 2022, 2023, 2024, 2025, 2026, 508] → (wc c2 606 0 0 0) f w' = c f w' := fun f hf => by
        funext x
        rw [wc_ne (by revert hf; revert f; decide), f2 f w' hf (by omega)]
      have tw : tW (wm m2 147 0 0) (12 * w') (m 48 w').toNat = tW m (12 * w') (m 48 w').toNat := tW_cg _ (fun r _ => by
        rw [nM 49 (by decide), nM 50 (by decide), nM 52 (by decide), nM 53 (by decide), nM 54 (by decide), nM 55 (by decide)]
        exact ⟨rfl, rfl, fun _ _ => ⟨rfl, rfl, rfl, rfl⟩⟩)
      rw [e 500 (by decide), e 508 (by decide), e 2020 (by decide), e 2021 (by decide), e 2022 (by decide), e 2023 (by decide), e 2024 (by decide), e 2025 (by decide), e 2026 (by decide), nC 2003 (by decide), nM 48 (by decide), nM 49 (by decide), nM 50 (by decide), nM 51 (by decide), nM 52 (by decide), nM 53 (by decide), nM 54 (by decide), nM 55 (by decide), tw]
      exact h.U w' hw'
    have hR : RR b (wc c2 606 0 0 0) (wm m2 147 0 0) := (RR.gen [5004, 1002, 1003, 500, 2020, 2021, 2022, 2023, 2024, 2025, 2026, 508, 606] [62, 63, 64, 65, 66, 67, 168, 169, 170, 147] h nC nM (Or.inr hA') (Or.inl ⟨rfl, rfl⟩) (Or.inl ⟨rfl, rfl⟩) (Or.inl ⟨rfl, rfl⟩) (Or.inl ⟨rfl, rfl⟩) (Or.inl ⟨rfl, rfl⟩) (Or.inl ⟨rfl, rfl⟩) (Or.inr hU') (Or.inl ⟨rfl, rfl⟩) (Or.inl ⟨rfl, rfl⟩) (Or.inl ⟨rfl, rfl⟩) (Or.inl ⟨rfl, rfl⟩))
    rw [show GO_Judge_wrongPlace_25 3000 0 c1 = _ from b1, q_some2, bi1, if_neg (by omega), show GO_Mo_load_11 3000 0 1 1 m1 = _ from b2]
    unfold GB_Mo_load_48
    rw [bi1, if_neg (by decide), show (wm m2 147 0 0) 169 0 = (q : Int) by rw [wm_at, if_neg (by omega)]; exact b3, q_eta, q_eta]
    have hq2 : -11 < p_w (-100 - (q : Int)) ∨ p_w (-100 - (q : Int)) < -16 := by
      rw [p_w1 (by omega) (by omega)]; omega
    exact pr_refuse hR _ hq2 (by rw [nC 607 (by decide), nM 102 (by decide)]; exact hE)
  · -- loaded
    obtain ⟨f1, f2⟩ := frU c2 b7 b8
    have nm2 : eM (168 :: ljM) m m2 := (nm1.up (by decide)).tr (b9.up (by decide))
    generalize hc3 : wc c2 606 0 0 0 = c3
    have nc3 : eC [606] c2 c3 := by rw [← hc3]; exact (by repeat first | exact eC.rf _ _ | refine eC.wc ?_ (by decide) _ _ _ | refine eC.sr ?_ (by decide) _ _)
    obtain ⟨c4, d1, d2, d3, d4, d5, d6, d7, d8⟩ := s_ruleBy hw (u := 3) (by omega) c3
    generalize hm3 : wm (wm m2 147 0 0) 48 w (k : Int) = m3
    have nm3 : eM [147, 48] m2 m3 := by rw [← hm3]; exact (by repeat first | exact eM.rf _ _ | refine eM.wm ?_ (by decide) _ _)
    have m100 : m3 100 0 = (w : Int) := by rw [nm3 100 (by decide), nm2 100 (by decide)]; exact e1
    obtain ⟨m4, i1, i2, i3, i4, i5⟩ := n_ldRules hw b3 k 0 3000 m3 (by omega) (by omega) m100
    have nC : eC [5004, 1002, 1003, 500, 2020, 2021, 2022, 2023, 2024, 2025, 2026, 508, 606, 2003] c c4 := ((f1.up (by decide)).tr (nc3.up (by decide))).tr (d2.up (by decide))
    have nM : eM [62, 63, 64, 65, 66, 67, 168, 169, 170, 147, 48, 49, 50, 51, 52, 53, 54, 55] m m4 := ((nm2.up (by decide)).tr (nm3.up (by decide))).tr (i2.up (by decide))
    have nCF : eC [5004, 1002, 1003, 500, 2020, 2021, 2022, 2023, 2024, 2025, 2026, 508, 606, 2003, 213] c (wc c4 213 w 0 0) := (nC.up (by decide)).tr (eC.up (l := [213]) (by repeat first | exact eC.rf _ _ | refine eC.wc ?_ (by decide) _ _ _ | refine eC.sr ?_ (by decide) _ _) (by decide))
    have nMF : eM [62, 63, 64, 65, 66, 67, 168, 169, 170, 147, 48, 49, 50, 51, 52, 53, 54, 55, 81] m (wm m4 81 w 0) := (nM.up (by decide)).tr (eM.up (l := [81]) (by repeat first | exact eM.rf _ _ | refine eM.wm ?_ (by decide) _ _) (by decide))
    have r48 : ∀ x, m4 48 x = if x = w then (k : Int) else m 48 x := fun x => by
      rw [i2 48 (by decide), ← hm3, wm_at]
      by_cases e : x = w
      · rw [if_pos ⟨rfl, e⟩, if_pos e]
      · rw [if_neg (fun z => e z.2), if_neg e, wm_at, if_neg (by omega), nm2 48 (by decide)]
    have c500 : c4 500 w 0 = (k : Int) := by rw [d4, nc3 500 (by decide)]; exact b4
    have hA' : RA (wc c4 213 w 0 0) (wm m4 81 w 0) := by
      unfold RA
      rw [nCF 5000 (by decide), nCF 608 (by decide), nCF 2042 (by decide), nCF 200 (by decide), nMF 100 (by decide), nMF 101 (by decide), nMF 102 (by decide), nMF 46 (by decide)]
      have z1 : (wc c4 213 w 0 0) 606 0 0 = 0 := by rw [wc_ne (by decide), d2 606 (by decide), ← hc3]; simp [wc_at]
      have z2 : (wm m4 81 w 0) 147 0 = 0 := by rw [wm_at, if_neg (by omega), i2 147 (by decide), ← hm3, wm_at, if_neg (by omega)]; simp [wm_at]
      rw [z1, z2]
      exact ⟨A1, A2, A3, A4, A5, rfl, by omega, by omega, A9, A10⟩
    have gC : ∀ f, f ≠ 213 → (wc c4 213 w 0 0) f = c4 f := fun f hf => by funext x y; rw [wc_ne hf]
    have gM : ∀ f, f ≠ 81 → (wm m4 81 w 0) f = m4 f := fun f hf => by funext x; rw [wm_at, if_neg (fun z => hf z.1)]
    have m3e : ∀ f, f ∈ [62, 63, 64, 65, 66, 67] → m3 f = m2 f := fun f hf => nm3 f (by revert hf; revert f; decide)
    have m3o : ∀ f, f ∈ [49, 50, 51, 52, 53, 54, 55] → m3 f = m f := fun f hf => by
      have h1 : f ∉ [147, 48] := by revert hf; revert f; decide
      have h2 : f ∉ (168 :: ljM) := by clear h1; revert hf; revert f; decide
      rw [nm3 f h1, nm2 f h2]
    have hU' : RU (wc c4 213 w 0 0) (wm m4 81 w 0) := fun w' hw' => by
      rw [gC 500 (by decide), gC 508 (by decide), gC 2003 (by decide), gC 2020 (by decide), gC 2021 (by decide), gC 2022 (by decide), gC 2023 (by decide), gC 2024 (by decide), gC 2025 (by decide), gC 2026 (by decide), gM 48 (by decide), gM 49 (by decide), gM 50 (by decide), gM 51 (by decide), gM 52 (by decide), gM 53 (by decide), gM 54 (by decide), gM 55 (by decide), r48]
      by_cases e : w' = w
      · subst e
        rw [if_pos rfl]
        have ri : ∀ r, r < k → m4 49 (12 * w' + r) = m2 62 r ∧ m4 50 (12 * w' + r) = m2 63 r ∧ m4 51 (12 * w' + r) = 0 ∧ (∀ t, t < 4 → m4 52 (48 * w' + 4 * r + t) = m2 64 (4 * r + t) ∧ m4 53 (48 * w' + 4 * r + t) = m2 65 (4 * r + t) ∧ m4 54 (48 * w' + 4 * r + t) = m2 66 (4 * r + t) ∧ m4 55 (48 * w' + 4 * r + t) = m2 67 (4 * r + t)) := fun r hr => by
          have := i5 r (by omega) hr
          rw [m3e 62 (by decide), m3e 63 (by decide), m3e 64 (by decide), m3e 65 (by decide), m3e 66 (by decide), m3e 67 (by decide)] at this
          exact this
        have et : tW (wm m4 81 w' 0) (12 * w') (k : Int).toNat = tW (vw m2) 0 k := by
          rw [Int.toNat_natCast]
          refine tW_cg k (fun r hr => ?_)
          obtain ⟨x1, x2, x3, x4⟩ := ri r hr
          have hb := (b5 r hr).2.1
          rw [gM 49 (by decide), gM 50 (by decide), gM 52 (by decide), gM 53 (by decide), gM 54 (by decide), gM 55 (by decide), Nat.zero_add, vw49, vw50, vw52, vw53, vw54, vw55]
          refine ⟨x1, x2, fun t ht => ?_⟩
          rw [show 4 * (12 * w' + r) + t = 48 * w' + 4 * r + t by omega]
          exact x4 t (by omega)
        rw [et]
        obtain ⟨⟨_, _, _, _⟩, ⟨t1, t2⟩, _, _, t3⟩ := id b6
        refine ⟨⟨c500, by omega, by omega⟩, fun r hr hr' => ?_, ⟨by rw [d5, nc3 508 (by decide)]; exact t1, by omega, fun i hi => by rw [d8 i (by omega), nc3 2026 (by decide)]; exact t2 i hi⟩⟩
        obtain ⟨x1, x2, x3, x4⟩ := ri r (by omega)
        obtain ⟨y1, y2, y3⟩ := b5 r (by omega)
        obtain ⟨z1, z2, z3⟩ := d6 r hr
        rw [x1, x2, x3, z1, z2, z3, nc3 2020 (by decide), nc3 2021 (by decide)]
        refine ⟨y1, y2, rfl, fun t ht ht' => ?_⟩
        obtain ⟨v1, v2, v3, v4⟩ := d7 (4 * r + t) (by omega)
        obtain ⟨s1, s2, s3, s4⟩ := x4 t ht
        rw [v1, v2, v3, v4, s1, s2, s3, s4, nc3 2022 (by decide), nc3 2023 (by decide), nc3 2024 (by decide), nc3 2025 (by decide)]
        exact y3 t ht ht'
      · rw [if_neg e, d3 500 w' e, d3 508 w' e, d3 2003 w' e, d3 2020 w' e, d3 2021 w' e, d3 2022 w' e, d3 2023 w' e, d3 2024 w' e, d3 2025 w' e, d3 2026 w' e, nc3 500 (by decide), nc3 508 (by decide), nc3 2003 (by decide), nc3 2020 (by decide), nc3 2021 (by decide), nc3 2022 (by decide), nc3 2023 (by decide), nc3 2024 (by decide), nc3 2025 (by decide), nc3 2026 (by decide), f2 500 w' (by decide) (by omega), f2 508 w' (by decide) (by omega), f2 2020 w' (by decide) (by omega), f2 2021 w' (by decide) (by omega), f2 2022 w' (by decide) (by omega), f2 2023 w' (by decide) (by omega), f2 2024 w' (by decide) (by omega), f2 2025 w' (by decide) (by omega), f2 2026 w' (by decide) (by omega), f1 2003 (by decide)]
        obtain ⟨⟨x1, x2, x3⟩, x4, x5⟩ := h.U w' hw'
        have uo : ∀ f x, f ∈ [49, 50, 51] → ¬ (12 * w ≤ x ∧ x < 12 * w + 12) → m4 f x = m f x := fun f x hf hx => by
          have h1 : f ∈ [49, 50, 51, 52, 53, 54, 55] := by clear hx; revert hf; revert f; decide
          rw [i3 f x hf (by omega), m3o f h1]
        have uo2 : ∀ f x, f ∈ [52, 53, 54, 55] → ¬ (48 * w ≤ x ∧ x < 48 * w + 48) → m4 f x = m f x := fun f x hf hx => by
          have h1 : f ∈ [49, 50, 51, 52, 53, 54, 55] := by clear hx; revert hf; revert f; decide
          rw [i4 f x hf (by omega), m3o f h1]
        have et : tW (wm m4 81 w 0) (12 * w') (m 48 w').toNat = tW m (12 * w') (m 48 w').toNat := by
          refine tW_cg _ (fun r hr => ?_)
          rw [gM 49 (by decide), gM 50 (by decide), gM 52 (by decide), gM 53 (by decide), gM 54 (by decide), gM 55 (by decide)]
          have hb50 := (x4 r (by omega) (by omega)).2.1
          exact ⟨uo 49 _ (by decide) (by omega), uo 50 _ (by decide) (by omega), fun t ht => ⟨uo2 52 _ (by decide) (by omega), uo2 53 _ (by decide) (by omega), uo2 54 _ (by decide) (by omega), uo2 55 _ (by decide) (by omega)⟩⟩
        rw [et]
        refine ⟨⟨x1, x2, x3⟩, fun r hr hr' => ?_, x5⟩
        rw [uo 49 _ (by decide) (by omega), uo 50 _ (by decide) (by omega), uo 51 _ (by decide) (by omega)]
        obtain ⟨y1, y2, y3, y4⟩ := x4 r hr hr'
        refine ⟨y1, y2, y3, fun t ht ht' => ?_⟩
        rw [uo2 52 _ (by decide) (by omega), uo2 53 _ (by decide) (by omega), uo2 54 _ (by decide) (by omega), uo2 55 _ (by decide) (by omega)]
        exact y4 t ht ht'
    have hK' : RK b (wc c4 213 w 0 0) (wm m4 81 w 0) := RK.built h hw nC nM rfl rfl (fun w' _ => by rw [nM 3 (by decide)]) (fun w' g _ _ _ => by rw [nM 5 (by decide), nM 6 (by decide)]; exact ⟨rfl, rfl⟩) (fun w' e => by rw [r48, if_neg e]) (by rw [nM 81 (by decide)])
    have hR : RR b (wc c4 213 w 0 0) (wm m4 81 w 0) := (RR.gen [5004, 1002, 1003, 500, 2020, 2021, 2022, 2023, 2024, 2025, 2026, 508, 606, 2003, 213] [62, 63, 64, 65, 66, 67, 168, 169, 170, 147, 48, 49, 50, 51, 52, 53, 54, 55, 81] h nCF nMF (Or.inr hA') (Or.inl ⟨rfl, rfl⟩) (Or.inl ⟨rfl, rfl⟩) (Or.inl ⟨rfl, rfl⟩) (Or.inl ⟨rfl, rfl⟩) (Or.inl ⟨rfl, rfl⟩) (Or.inl ⟨rfl, rfl⟩) (Or.inr hU') (Or.inl ⟨rfl, rfl⟩) (Or.inl ⟨rfl, rfl⟩) (Or.inl ⟨rfl, rfl⟩) (Or.inr hK'))
    have e5 : c3 5000 0 0 = (w : Int) := by rw [nc3 5000 (by decide), f1 5000 (by decide)]; exact e2
    rw [show GO_Judge_wrongPlace_25 3000 0 c1 = _ from b1, q_some2, hc3, bi1, if_pos rfl, e5, gd1 w3, Int.toNat_natCast, d1, q_some, d2 5000 (by decide), e5, gd1 w3, Int.toNat_natCast, c500, q_eta, show GO_Mo_load_11 3000 0 1 1 m1 = _ from b2]
    unfold GB_Mo_load_48
    rw [bi1, if_pos (by decide), show (wm m2 147 0 0) 100 0 = (w : Int) by rw [wm_at, if_neg (by omega), nm2 100 (by decide)]; exact e1, gd1 w3, Int.toNat_natCast, hm3, bi1, show GO_Mo_load_82 3000 (k : Int) 0 m3 = _ from i1]
    exact pr_built2 hw (by rw [nM 100 (by decide)]; exact e1) (by rw [nC 5000 (by decide)]; exact e2) (by rw [nC 607 (by decide), nM 102 (by decide)]; exact hE) hR _
