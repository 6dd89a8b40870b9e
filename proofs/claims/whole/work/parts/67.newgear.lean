theorem eC.of {l s : List Nat} {c c' : h_C} {f : Nat} (h : eC l c c') (hf : f ∈ s) (d : dj s l) : c' f = c f := h f (d.at hf)
theorem eM.of {l s : List Nat} {m m' : h_M} {f : Nat} (h : eM l m m') (hf : f ∈ s) (d : dj s l) : m' f = m f := h f (d.at hf)
/-! ===== a gear more ===== -/
theorem l_zero8 {i : Nat} (hi : i < 120) (m : h_M) : ∃ m' k, eM [22] m m' ∧ (∀ x, m' 22 x = if 8 * i ≤ x ∧ x < 8 * i + 8 then 0 else m 22 x) ∧ GO_Mo_gear_107 3000 (i : Int) 0 m = GL_Mo_gear_107 k (i : Int) 8 m' := by
  have key : ∀ (d s fu : Nat) (m : h_M), s + d = 8 → d < fu → ∃ m' k, eM [22] m m' ∧ (∀ x, m' 22 x = if 8 * i + s ≤ x ∧ x < 8 * i + 8 then 0 else m 22 x) ∧ GO_Mo_gear_107 fu (i : Int) (s : Int) m = GL_Mo_gear_107 k (i : Int) 8 m' := by
    intro d
    induction d with
    | zero =>
      intro s fu m hs hf
      obtain ⟨fu, rfl⟩ : ∃ g, fu = g + 1 := ⟨fu - 1, by omega⟩
      refine ⟨m, GO_Mo_gear_107 fu, eM.rf _ _, fun x => by rw [if_neg (by omega)], ?_⟩
      rw [show s = 8 by omega]
      rfl
    | succ d ih =>
      intro s fu m hs hf
      obtain ⟨fu, rfl⟩ : ∃ g, fu = g + 1 := ⟨fu - 1, by omega⟩
      obtain ⟨m', k, n1, n2, n3⟩ := ih (s + 1) fu (wm m 22 (8 * i + s) 0) (by omega) (by omega)
      refine ⟨m', k, ((eM.rf _ _).wm (by decide) _ _).tr n1, fun x => ?_, ?_⟩
      · rw [n2 x]
        simp only [wm_at]
        by_cases e : x = 8 * i + s
        · rw [if_neg (by omega), if_pos (by simp [e]), if_pos (by omega)]
        · by_cases e2 : 8 * i + (s + 1) ≤ x ∧ x < 8 * i + 8
          · rw [if_pos e2, if_pos (by omega)]
          · rw [if_neg e2, if_neg (by omega), if_neg (by omega)]
      · show GL_Mo_gear_107 _ _ _ m = _
        unfold GL_Mo_gear_107
        simp (discharger := omega) only [p_w1, gd1, bi1]
        rw [if_neg (by omega), show (8 * (i : Int) + (s : Int)).toNat = 8 * i + s by omega, show (s : Int) + 1 = ((s + 1 : Nat) : Int) by omega, n3]
        unfold GL_Mo_gear_107
        simp (discharger := omega) only [p_w1, gd1, bi1]
  exact key 8 0 3000 m (by omega) (by omega)
theorem pr_gear2 {b : Nat} {c : h_C} {m : h_M} (h : RR b c m) (hE : c 607 0 0 = m 102 0) {w : Nat} (hw : w < 3) (e1 : m 100 0 = (w : Int)) (e2 : c 5000 0 0 = (w : Int)) (v1 v2 : Int) (h0 : 0 ≤ v1) (h10 : v1 ≤ 10) (hv : v1 < 9 → 1 ≤ v2 ∧ v2 ≤ 8) : PR b (GB_SW_gear_32 v1 v2 c) (GB_Mo_gear_38 v1 v2 m) := by
  have f1 := h.F.1 w
  by_cases hn : m 3 w = 40
  · unfold GB_SW_gear_32 GB_Mo_gear_38
    simp (discharger := omega) only [e1, e2, Int.toNat_natCast, q_eta, gd1, f1.1, hn, if_false, ne_eq, not_true_eq_false, ↓reduceIte]
    simp only [show ¬ ((40 : Int) < 40) by omega, if_false]
    exact pr_refuse h _ (by omega)
  obtain ⟨n, hn2⟩ : ∃ n : Nat, m 3 w = (n : Int) := ⟨(m 3 w).toNat, by omega⟩
  have n40 : n < 40 := by omega
  have i120 : 40 * w + n < 120 := by omega
  have hj : vG (40 * w + n + 1) := ⟨by omega, by omega⟩
  have hL : ∃ len : Int, len = (if v1 < 9 then v2 else 0) ∧ 0 ≤ len ∧ len ≤ 8 ∧ (v1 < 9 → 1 ≤ len) ∧ (9 ≤ v1 → len = 0) := by
    refine ⟨_, rfl, ?_⟩
    split <;> omega
  obtain ⟨len, hl, l0, l8, lt, ln⟩ := hL
  have nc0 : eC [202] c (wc c 202 w 0 ((n : Int) + 1)) := (by repeat first | exact eC.rf _ _ | refine eC.wc ?_ (by decide) _ _ _ | refine eC.sr ?_ (by decide) _ _)
  have nc1 := bgC_n (wc c 202 w 0 ((n : Int) + 1)) (40 * w + n + 1) v1
  have nm0 := bgM_n m (40 * w + n) v1
  obtain ⟨m', k, n1, n2, n3⟩ := l_zero8 i120 (wm (wm (bgM m (40 * w + n) v1) 6 (40 * w + n) len) 7 (40 * w + n) (-1))
  have a1 : m' 100 0 = (w : Int) := by rw [n1 100 (by decide)]; simp [wm_at]; rw [nm0 100 (by decide)]; exact e1
  have a3 : m' 3 w = (n : Int) := by rw [n1 3 (by decide)]; simp [wm_at]; rw [nm0 3 (by decide)]; exact hn2
  have hC : GB_SW_gear_32 v1 v2 c = G_SW_built (n : Int) (wc (bgC (wc c 202 w 0 ((n : Int) + 1)) (40 * w + n + 1) v1) 1 (40 * w + n + 1) 0 len) := by
    have a4 : (wc c 202 w 0 ((n : Int) + 1)) 5000 0 0 = (w : Int) := by simp [wc_at, e2]
    unfold GB_SW_gear_32 GB_SW_gear_100
    simp (discharger := omega) only [e2, Int.toNat_natCast, q_eta, gd1, f1.1, hn2, p_w1, bi1, a4]
    rw [if_pos (by omega), s_begin hj h0 h10, q_some, s_isTakerKind, q_some]
    by_cases ht : v1 < 9
    · rw [show (if 0 ≤ v1 ∧ v1 < 9 then (1 : Int) else 0) = 1 from if_pos ⟨h0, ht⟩, if_neg (by decide), hl, if_pos ht]
    · rw [show (if 0 ≤ v1 ∧ v1 < 9 then (1 : Int) else 0) = 0 from if_neg (by omega), if_pos rfl, hl, if_neg ht]
  have hM : GB_Mo_gear_38 v1 v2 m = G_Mo_built (n : Int) (wm m' 3 w ((n : Int) + 1)) := by
    unfold GB_Mo_gear_38 GB_Mo_gear_96
    simp (discharger := omega) only [e1, Int.toNat_natCast, q_eta, gd1, hn2, p_w1, bi1, s_g hw e1 n40, q_some, s_fresh i120 h0 h10, s_mTaker]
    have q : ∀ z : Int, z = len → GO_Mo_gear_107 3000 ((40 * w + n : Nat) : Int) 0 (wm (wm (bgM m (40 * w + n) v1) 6 (40 * w + n) z) 7 (40 * w + n) (-1)) = G_Mo_built (n : Int) (wm m' 3 w ((n : Int) + 1)) := by
      intro z hz
      rw [hz, n3]
      unfold GL_Mo_gear_107
      rw [if_pos (by omega)]
      have a5 : (wm m' 3 w ((n : Int) + 1)) 100 0 = (w : Int) := by simp [wm_at, a1]
      have a6 : (wm m' 3 w ((n : Int) + 1)) 3 w = (n : Int) + 1 := by simp [wm_at]
      simp (discharger := omega) only [a1, a3, Int.toNat_natCast, gd1, bi1, p_w1, a5, a6, q_eta]
      rw [show (n : Int) + 1 - 1 = n by omega]
    rw [if_pos (by omega)]
    by_cases ht : v1 < 9
    · rw [show (if v1 < 9 then (1 : Int) else 0) = 1 from if_pos ht, if_neg (by decide)]
      exact q _ (by rw [hl, if_pos ht])
    · rw [show (if v1 < 9 then (1 : Int) else 0) = 0 from if_neg ht, if_pos rfl]
      exact q _ (by rw [hl, if_neg ht])
  rw [hC, hM]
  refine pr_built2 hw (by simp [wm_at, a1]) (by simp [wc_at]; rw [nc1 5000 (by decide)]; simp [wc_at, e2]) (by simp [wc_at, wm_at]; rw [nc1 607 (by decide), n1 102 (by decide)]; simp [wc_at, wm_at]; rw [nm0 102 (by decide)]; exact hE) ?_ _
  have nC : eC [202, 0, 2, 2011, 6, 7, 8, 9, 10, 11, 12, 13, 14, 15, 16, 1, 213] c (wc (wc (bgC (wc c 202 w 0 ((n : Int) + 1)) (40 * w + n + 1) v1) 1 (40 * w + n + 1) 0 len) 213 w 0 0) := (((nc0.up (by decide)).tr (nc1.up (by decide))).wc (by decide) _ _ _).wc (by decide) _ _ _
  have nM : eM [5, 9, 10, 11, 12, 13, 14, 15, 16, 17, 18, 19, 20, 21, 6, 7, 22, 3, 81] m (wm (wm m' 3 w ((n : Int) + 1)) 81 w 0) := ((((((nm0.up (by decide)).wm (by decide) _ _).wm (by decide) _ _).tr (n1.up (by decide))).wm (by decide) _ _).wm (by decide) _ _)
  -- reads of the new rows
  have rM : ∀ f, f ∉ [22, 3, 81] → (wm (wm m' 3 w ((n : Int) + 1)) 81 w 0) f = (wm (wm (bgM m (40 * w + n) v1) 6 (40 * w + n) len) 7 (40 * w + n) (-1)) f := fun f hf => by
    simp at hf
    funext x
    simp only [wm_at]
    rw [if_neg (by omega), if_neg (by omega), n1 f (by simp; omega)]
    simp only [wm_at]
  have r3 : ∀ x, (wm (wm m' 3 w ((n : Int) + 1)) 81 w 0) 3 x = if x = w then (n : Int) + 1 else m 3 x := fun x => by
    simp only [wm_at]
    by_cases e : x = w
    · simp [e]
    · simp [e]
      rw [n1 3 (by decide)]
      simp [wm_at]
      rw [nm0 3 (by decide)]
  have r22 : ∀ x, (wm (wm m' 3 w ((n : Int) + 1)) 81 w 0) 22 x = if 8 * (40 * w + n) ≤ x ∧ x < 8 * (40 * w + n) + 8 then 0 else m 22 x := fun x => by
    simp only [wm_at]
    rw [if_neg (by omega), if_neg (by omega), n2 x]
    by_cases e : 8 * (40 * w + n) ≤ x ∧ x < 8 * (40 * w + n) + 8
    · rw [if_pos e, if_pos e]
    · rw [if_neg e, if_neg e]
      simp only [wm_at]
      rw [if_neg (by omega), if_neg (by omega), nm0 22 (by decide)]
  generalize hc' : (wc (wc (bgC (wc c 202 w 0 ((n : Int) + 1)) (40 * w + n + 1) v1) 1 (40 * w + n + 1) 0 len) 213 w 0 0) = c' at nC ⊢
  generalize hm' : (wm (wm m' 3 w ((n : Int) + 1)) 81 w 0) = mm at nM rM r3 r22 ⊢
  have rC : ∀ f, f ∉ [213, 202] → c' f = (wc (bgC c (40 * w + n + 1) v1) 1 (40 * w + n + 1) 0 len) f := fun f hf => by
    simp at hf
    rw [← hc']
    funext x y
    simp only [wc_at, bgC, sr_at, fl_at]
    rw [if_neg (by omega)]
    simp [hf.2]
  have g6 : ∀ x, mm 6 x = if x = 40 * w + n then len else m 6 x := fun x => by rw [rM 6 (by decide)]; simp [wm_at]; rw [nm0 6 (by decide)]
  refine (RR.gen [202, 0, 2, 2011, 6, 7, 8, 9, 10, 11, 12, 13, 14, 15, 16, 1, 213] [5, 9, 10, 11, 12, 13, 14, 15, 16, 17, 18, 19, 20, 21, 6, 7, 22, 3, 81] h nC nM (Or.inl ⟨rfl, rfl⟩) (Or.inr ?_) (Or.inr ?_) (Or.inl ⟨rfl, rfl⟩) (Or.inr ?_) (Or.inl ⟨rfl, rfl⟩) (Or.inl ⟨rfl, rfl⟩) (Or.inl ⟨rfl, rfl⟩) (Or.inl ⟨rfl, rfl⟩) (Or.inr ?_) (Or.inl ⟨rfl, rfl⟩) (Or.inr ?_))
  · obtain ⟨g1, g2, g3⟩ := h.F
    refine ⟨fun w' => ?_, fun i' => ?_, fun w' g' hw' hg' => ?_⟩
    · have := g1 w'
      have q : c' 202 w' 0 = if w' = w then (n : Int) + 1 else c 202 w' 0 := by rw [← hc']; simp [wc_at, bgC, sr_at]
      rw [r3, q]
      by_cases e : w' = w
      · rw [if_pos e, if_pos e]; omega
      · rw [if_neg e, if_neg e]; exact this
    · have := g2 i'
      rw [rC 0 (by decide), rC 1 (by decide), rM 5 (by decide), g6]
      by_cases e : i' = 40 * w + n
      · subst e
        simp [wc_at, wm_at, bgC, bgM, sr_at]
        omega
      · simpa [wc_at, wm_at, bgC, bgM, sr_at, e] using this
    · rw [r3] at hg'
      rw [rM 5 (by decide), g6]
      by_cases e : 40 * w' + g' = 40 * w + n
      · rw [e]
        simp [wm_at, bgM]
        exact ⟨lt, ln⟩
      · have := g3 w' g' hw' (by
          by_cases ew : w' = w
          · subst ew
            rw [if_pos rfl] at hg'
            omega
          · rw [if_neg ew] at hg'
            exact hg')
        simpa [wm_at, bgM, e] using this
  · refine RG.mk (fun i' => ?_) (fun w' g' hw' hg' => ?_)
    · have q : RGa (bgC c (40 * w + n + 1) v1) (bgM m (40 * w + n) v1) i' := by
        by_cases e : i' = 40 * w + n
        · subst e
          exact bg_i (h.G.a _) h0 h10
        · exact bg_o (h.G.a _) e v1
      refine q.other (fun f hf => ?_) (fun f hf => ?_) (fun l hl => ?_) ⟨?_, ?_⟩
      · rw [rC f (by simp; constructor <;> (intro z; subst z; exact absurd hf (by decide)))]
        show sr _ 1 _ _ f _ = _
        rw [sr_nf (fun z => by subst z; exact absurd hf (by decide))]
      · rw [rM f (by simp; refine ⟨?_, ?_, ?_⟩ <;> (intro z; subst z; exact absurd hf (by decide)))]
        simp only [wm_at]
        rw [if_neg (fun z => by rw [z.1] at hf; exact absurd hf (by decide)), if_neg (fun z => by rw [z.1] at hf; exact absurd hf (by decide))]
      · rw [rM 8 (by decide)]; simp [wm_at]
      · rw [rM 11 (by decide)]; simp [wm_at]
      · rw [rM 11 (by decide)]; simp [wm_at]
    · have q := h.G.e hw' hg'
      obtain ⟨q1, q2⟩ := q
      refine ⟨fun hl => ?_, fun hl => ?_⟩
      · rw [r3] at hl
        rw [rC 3 (by decide), rC 15 (by decide), rM 7 (by decide), rM 12 (by decide)]
        by_cases e : 40 * w' + g' = 40 * w + n
        · obtain ⟨rfl, rfl⟩ : w' = w ∧ g' = n := by omega
          have := q2 (by omega)
          simp [wc_at, wm_at, bgC, bgM, sr_at, this]
        · obtain ⟨p1, p2, p3, p4, p5⟩ := q1 (by
            by_cases ew : w' = w
            · subst ew
              rw [if_pos rfl] at hl
              omega
            · rw [if_neg ew] at hl
              exact hl)
          simp [wc_at, wm_at, bgC, bgM, sr_at, e, p1, p2, p3, p4, p5]
      · rw [r3] at hl
        rw [rC 3 (by decide)]
        have := q2 (by
          by_cases ew : w' = w
          · subst ew
            rw [if_pos rfl] at hl
            omega
          · rw [if_neg ew] at hl
            exact hl)
        simpa [wc_at, bgC, sr_at] using this
  · obtain ⟨p1, p2, p3, p4, p5⟩ := h.P
    have cP : ∀ f ∈ sRP, c' f = c f := fun f hf => nC.of hf rfl
    have ge : ∀ w' g' : Nat, w' < 3 → (g' : Int) < m 3 w' → (g' : Int) < mm 3 w' ∧ mm 6 (40 * w' + g') = m 6 (40 * w' + g') := fun w' g' hw' hg' => by
      have := h.F.1 w'
      rw [r3, g6]
      by_cases ew : w' = w
      · subst ew
        rw [if_pos rfl, if_neg (by omega)]
        exact ⟨by omega, rfl⟩
      · rw [if_neg ew, if_neg (by omega)]
        exact ⟨hg', rfl⟩
    have mo : ∀ f, f ∈ [24, 25, 26, 27, 28, 29, 30, 31, 32, 33, 34, 35, 38, 123] → mm f = m f := fun f hf => nM.of hf rfl
    refine ⟨?_, fun w' g' k' hw' hg' hk' => ?_, fun w' pl hw' a b' => ?_, ?_, ?_⟩
    · rw [cP 100 (by decide)]; exact p1
    · have q := p2 w' g' k' hw' hg' hk'
      unfold SL at q ⊢
      rw [cP 2012 (by decide), cP 101 (by decide), cP 105 (by decide), cP 106 (by decide), r22]
      by_cases e : 40 * w' + g' = 40 * w + n
      · obtain ⟨rfl, rfl⟩ : w' = w ∧ g' = n := by omega
        rcases q with ⟨q1, q2⟩ | ⟨pl, _, _, _, _, _, _, _, q8, _⟩
        · exact Or.inl ⟨q1, by rw [if_pos (by omega)]⟩
        · omega
      · rw [if_neg (by omega)]
        rcases q with q | ⟨pl, q1, q2, q3, q4, q5, q6, q7, q8, q9⟩
        · exact Or.inl q
        · exact Or.inr ⟨pl, q1, q2, q3, q4, q5, q6, q7, (ge w' g' hw' q8).1, by rw [(ge w' g' hw' q8).2]; exact q9⟩
    · rw [cP 101 (by decide)]
      rcases p3 w' pl hw' a b' with q | ⟨q, q0, ⟨q1, g, k, q2, q3, q4, q5, q6, q7, q8⟩, q9⟩
      · exact Or.inl q
      · refine Or.inr ⟨q, q0, ⟨?_, g, k, q2, q3, ?_⟩, ?_⟩
        · rw [mo 123 (by decide), mo 24 (by decide), mo 25 (by decide)]; exact q1
        · rw [cP 105 (by decide), cP 106 (by decide), cP 2012 (by decide), mo 26 (by decide), mo 27 (by decide), (ge w' g hw' q6).2]
          exact ⟨q4, q5, (ge w' g hw' q6).1, q7, q8⟩
        · simp only [mo 28 (by decide), mo 29 (by decide), mo 30 (by decide), mo 31 (by decide), mo 32 (by decide), mo 33 (by decide), mo 34 (by decide), mo 35 (by decide), cP 102 (by decide), cP 103 (by decide), cP 104 (by decide), cP 107 (by decide), cP 109 (by decide), cP 111 (by decide), cP 2014 (by decide), cP 2015 (by decide)]
          exact q9
    · rw [mo 123 (by decide), mo 24 (by decide), mo 25 (by decide), cP 101 (by decide)]; exact p4
    · rw [cP 302 (by decide), mo 38 (by decide), cP 101 (by decide)]; exact p5
  · intro w' i' hw' hi'
    obtain ⟨q1, q2, q3, q4, q5, q6, q7⟩ := h.V w' i' hw' hi'
    have cV : ∀ f ∈ sRV, c' f = c f := fun f hf => nC.of hf rfl
    rw [cV 2036 (by decide), cV 2035 (by decide), cV 2034 (by decide), nM 59 (by decide), nM 60 (by decide), nM 61 (by decide), r3]
    refine ⟨q1, q2, q3, q4, q5, q6, fun k' a b' => ?_⟩
    obtain ⟨z1, z2, z3⟩ := q7 k' a b'
    refine ⟨z1, z2, ?_⟩
    by_cases ew : w' = w
    · subst ew
      rw [if_pos rfl]
      omega
    · rw [if_neg ew]
      exact z3
  · rw [← hc', ← hm']
    refine RK.built h hw (lc := [202, 0, 2, 2011, 6, 7, 8, 9, 10, 11, 12, 13, 14, 15, 16, 1]) (lm := [5, 9, 10, 11, 12, 13, 14, 15, 16, 17, 18, 19, 20, 21, 6, 7, 22, 3]) (((nc0.up (by decide)).tr (nc1.up (by decide))).wc (by decide) _ _ _) (((((nm0.up (by decide)).wm (by decide) _ _).wm (by decide) _ _).tr (n1.up (by decide))).wm (by decide) _ _) rfl rfl (fun w' hn => ?_) (fun w' g' hn hw' hg' => ?_) (fun w' hn => ?_) ?_
    · have := r3 w'
      rw [← hm'] at this
      simp [wm_at, hn] at this
      simp [wm_at, hn, this]
    · have e : ¬ (40 * w' + g' = 40 * w + n) := by omega
      have z5 := congrFun (rM 5 (by decide)) (40 * w' + g')
      have z6 := g6 (40 * w' + g')
      rw [← hm'] at z5 z6
      rw [if_neg e] at z6
      simp [wm_at, bgM, e] at z5 z6
      simp [wm_at, z5, z6]
    · simp [wm_at]; rw [n1 48 (by decide)]; simp [wm_at]; rw [nm0 48 (by decide)]
    · funext x; simp [wm_at]; rw [n1 81 (by decide)]; simp [wm_at]; rw [nm0 81 (by decide)]
theorem pr_gear {b : Nat} {c : h_C} {m : h_M} (h : RR b c m) (hE : c 607 0 0 = m 102 0) (v1 v2 : Int) : PR b (G_SW_gear v1 v2 c) (G_Mo_gear v1 v2 m) := by
  obtain ⟨w, hw, e1, e2⟩ := h.w
  unfold G_SW_gear G_Mo_gear GB_SW_gear_25 GB_Mo_gear_31
  simp only [s_isKind, s_isTakerKind, s_beyond, s_mTaker, q_some, q_eta]
  repeat' split
  all_goals first | (exfalso; omega) | exact pr_refuse h _ (by omega) | exact pr_gear2 h hE hw e1 e2 _ _ (by omega) (by omega) (by omega)
