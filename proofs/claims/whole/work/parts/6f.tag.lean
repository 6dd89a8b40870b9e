theorem l_tags {q : Nat} (hq : q < 2001) (m : h_M) (n k : Nat) (s : Int) (h1 : 1 ≤ k) (h7 : k < 7) (hs : 0 ≤ s ∧ s ≤ 1000) (hv : 48 ≤ m 32 (12 * q + k) ∧ m 32 (12 * q + k) ≤ 57) : GO_Mo_tags_145 (n + 1) (12 * (q : Int)) s (k : Int) m = GO_Mo_tags_145 n (12 * (q : Int)) (s + (m 32 (12 * q + k) - 48) * (if k % 2 = 1 then 3 else 1)) ((k + 1 : Nat) : Int) m := by
  show GL_Mo_tags_145 _ _ _ _ m = _
  unfold GL_Mo_tags_145 GB_Mo_tags_180
  simp (discharger := omega) only [p_w1 (x := 12 * (q : Int) + (k : Int)), p_rem1, gd1, bi1, show (12 * (q : Int) + (k : Int)).toNat = 12 * q + k by omega]
  rw [if_neg (by omega)]
  have e : ((k : Int) % 2 ≠ 1) ↔ ¬ k % 2 = 1 := by omega
  by_cases hk : k % 2 = 1
  · rw [if_neg (by rw [e]; simp [hk]), if_pos hk]
    simp (discharger := omega) only [p_w1]
    rw [show (k : Int) + 1 = ((k + 1 : Nat) : Int) by omega]
  · rw [if_pos (by rw [e]; exact hk), if_neg hk]
    simp (discharger := omega) only [p_w1]
    rw [show (k : Int) + 1 = ((k + 1 : Nat) : Int) by omega]
theorem s_tags {q : Nat} (hq : q < 2001) {m : h_M} {f t x z : Int} (hf : f = 0 ∨ f = 1) (ht : 0 ≤ t ∧ t ≤ 99) (ex : m 28 q = x) (ez : m 29 q = z) (hx : 1 ≤ x ∧ x ≤ 999) (hz : 0 ≤ z ∧ z ≤ 9) : ∃ m', G_Mo_tags (q : Int) f t m = some m' ∧ eM [31, 32] m m' ∧ (∀ x, x ≠ q → m' 31 x = m 31 x) ∧ (∀ x, ¬ (12 * q ≤ x ∧ x < 12 * q + 12) → m' 32 x = m 32 x) ∧ m' 31 q = (if f = 0 then 8 else 6) ∧ (∀ k : Nat, (k : Int) < (if f = 0 then 8 else 6) → m' 32 (12 * q + k) = lbl f t x z k) := by
  have a0 : (12 * (q : Int)).toNat = 12 * q := by omega
  have a1 : (12 * (q : Int) + 1).toNat = 12 * q + 1 := by omega
  have a2 : (12 * (q : Int) + 2).toNat = 12 * q + 2 := by omega
  have a3 : (12 * (q : Int) + 3).toNat = 12 * q + 3 := by omega
  have a4 : (12 * (q : Int) + 4).toNat = 12 * q + 4 := by omega
  have a5 : (12 * (q : Int) + 5).toNat = 12 * q + 5 := by omega
  have a6 : (12 * (q : Int) + 6).toNat = 12 * q + 6 := by omega
  have a7 : (12 * (q : Int) + 7).toNat = 12 * q + 7 := by omega
  have rd : ∀ (m1 : h_M) (k : Nat) (v : Int), (wm m1 32 k v) 29 q = m1 29 q := fun m1 k v => by simp [wm_at]
  rcases hf with rfl | rfl
  · obtain ⟨m9, y1, y2, y3, y4⟩ := s_newLabel hq 8 m
    have z9 : m9 29 q = z := by rw [y2 29 (by decide)]; exact ez
    generalize hm : (wm (wm (wm (wm (wm (wm (wm m9 32 (12 * q) 65) 32 (12 * q + 1) (48 + t / 10)) 32 (12 * q + 2) (48 + t % 10)) 32 (12 * q + 3) (48 + x / 100)) 32 (12 * q + 4) (48 + x / 10 % 10)) 32 (12 * q + 5) (48 + x % 10)) 32 (12 * q + 6) (48 + z)) = m50
    have b1 : m50 32 (12 * q + 1) = 48 + t / 10 := by rw [← hm]; simp [wm_at]
    have b2 : m50 32 (12 * q + 2) = 48 + t % 10 := by rw [← hm]; simp [wm_at]
    have b3 : m50 32 (12 * q + 3) = 48 + x / 100 := by rw [← hm]; simp [wm_at]
    have b4 : m50 32 (12 * q + 4) = 48 + x / 10 % 10 := by rw [← hm]; simp [wm_at]
    have b5 : m50 32 (12 * q + 5) = 48 + x % 10 := by rw [← hm]; simp [wm_at]
    have b6 : m50 32 (12 * q + 6) = 48 + z := by rw [← hm]; simp [wm_at]
    have hl' : ∀ n : Nat, GO_Mo_tags_145 (n + 7) (12 * (q : Int)) 0 1 m50 = some (wm m50 32 (12 * q + 7) (48 + (10 - (3 * (t / 10) + t % 10 + 3 * (x / 100) + x / 10 % 10 + 3 * (x % 10) + z) % 10) % 10)) := by
      intro n
      have s1 := l_tags hq m50 (n + 6) 1 0 (by omega) (by omega) (by omega) (by omega)
      have s2 := l_tags hq m50 (n + 5) 2 (0 + (m50 32 (12 * q + 1) - 48) * (if 1 % 2 = 1 then 3 else 1)) (by omega) (by omega) (by simp; omega) (by omega)
      have s3 := l_tags hq m50 (n + 4) 3 (0 + (m50 32 (12 * q + 1) - 48) * (if 1 % 2 = 1 then 3 else 1) + (m50 32 (12 * q + 2) - 48) * (if 2 % 2 = 1 then 3 else 1)) (by omega) (by omega) (by simp; omega) (by omega)
      have s4 := l_tags hq m50 (n + 3) 4 (0 + (m50 32 (12 * q + 1) - 48) * (if 1 % 2 = 1 then 3 else 1) + (m50 32 (12 * q + 2) - 48) * (if 2 % 2 = 1 then 3 else 1) + (m50 32 (12 * q + 3) - 48) * (if 3 % 2 = 1 then 3 else 1)) (by omega) (by omega) (by simp; omega) (by omega)
      have s5 := l_tags hq m50 (n + 2) 5 (0 + (m50 32 (12 * q + 1) - 48) * (if 1 % 2 = 1 then 3 else 1) + (m50 32 (12 * q + 2) - 48) * (if 2 % 2 = 1 then 3 else 1) + (m50 32 (12 * q + 3) - 48) * (if 3 % 2 = 1 then 3 else 1) + (m50 32 (12 * q + 4) - 48) * (if 4 % 2 = 1 then 3 else 1)) (by omega) (by omega) (by simp; omega) (by omega)
      have s6 := l_tags hq m50 (n + 1) 6 (0 + (m50 32 (12 * q + 1) - 48) * (if 1 % 2 = 1 then 3 else 1) + (m50 32 (12 * q + 2) - 48) * (if 2 % 2 = 1 then 3 else 1) + (m50 32 (12 * q + 3) - 48) * (if 3 % 2 = 1 then 3 else 1) + (m50 32 (12 * q + 4) - 48) * (if 4 % 2 = 1 then 3 else 1) + (m50 32 (12 * q + 5) - 48) * (if 5 % 2 = 1 then 3 else 1)) (by omega) (by omega) (by simp; omega) (by omega)
      have c0 := s1.trans (s2.trans (s3.trans (s4.trans (s5.trans s6))))
      refine Eq.trans c0 ?_
      show GL_Mo_tags_145 _ _ _ _ m50 = _
      unfold GL_Mo_tags_145
      rw [if_pos (by decide), b1, b2, b3, b4, b5, b6]
      simp only [show (1 % 2 = 1) = True by decide, show ((2 % 2 : Nat) = 1) = False by decide, show ((3 % 2 : Nat) = 1) = True by decide, show ((4 % 2 : Nat) = 1) = False by decide, show ((5 % 2 : Nat) = 1) = True by decide, show ((6 % 2 : Nat) = 1) = False by decide, if_true, if_false]
      have es : 0 + (48 + t / 10 - 48) * 3 + (48 + t % 10 - 48) * 1 + (48 + x / 100 - 48) * 3 + (48 + x / 10 % 10 - 48) * 1 + (48 + x % 10 - 48) * 3 + (48 + z - 48) * 1 = 3 * (t / 10) + t % 10 + 3 * (x / 100) + x / 10 % 10 + 3 * (x % 10) + z := by omega
      rw [es]
      simp (discharger := omega) only [p_w1, p_rem1, gd1, bi1, a7]
    have hl : GO_Mo_tags_145 3000 (12 * (q : Int)) 0 1 m50 = some (wm m50 32 (12 * q + 7) (48 + (10 - (3 * (t / 10) + t % 10 + 3 * (x / 100) + x / 10 % 10 + 3 * (x % 10) + z) % 10) % 10)) := hl' 2993
    refine ⟨wm m50 32 (12 * q + 7) (48 + (10 - (3 * (t / 10) + t % 10 + 3 * (x / 100) + x / 10 % 10 + 3 * (x % 10) + z) % 10) % 10), ?_, ?_, fun x' hx' => ?_, fun x' hx' => ?_, ?_, fun k hk => ?_⟩
    · unfold G_Mo_tags
      simp (discharger := omega) only [p_w1, gd1, bi1, Int.toNat_natCast, ex, y1, q_some, ne_eq, not_true_eq_false, if_false, p_div1, p_rem1, a0, a1, a2, a3, a4, a5, a6, rd, z9, hm, hl]
    · rw [← hm]
      exact y2.tr (by repeat first | exact eM.rf _ _ | refine eM.wm ?_ (by decide) _ _)
    · rw [← hm]; simp [wm_at, y3, hx']
    · rw [← hm]
      simp only [wm_at]
      rw [if_neg (by omega), if_neg (by omega), if_neg (by omega), if_neg (by omega), if_neg (by omega), if_neg (by omega), if_neg (by omega), if_neg (by omega), y4, if_neg hx']
    · rw [← hm]; simp [wm_at, y3]
    · have h8 : k = 0 ∨ k = 1 ∨ k = 2 ∨ k = 3 ∨ k = 4 ∨ k = 5 ∨ k = 6 ∨ k = 7 := by
        rw [if_pos rfl] at hk
        omega
      rw [← hm]
      rcases h8 with rfl | rfl | rfl | rfl | rfl | rfl | rfl | rfl <;> simp [wm_at, lbl]
  · obtain ⟨m9, y1, y2, y3, y4⟩ := s_newLabel hq 6 m
    have z9 : m9 29 q = z := by rw [y2 29 (by decide)]; exact ez
    refine ⟨wm (wm (wm (wm (wm (wm m9 32 (12 * q) 66) 32 (12 * q + 1) t) 32 (12 * q + 2) (x / 256)) 32 (12 * q + 3) (x % 256)) 32 (12 * q + 4) z) 32 (12 * q + 5) ((7 * t + 5 * (x / 256) + 3 * (x % 256) + z) % 97), ?_, y2.tr (by repeat first | exact eM.rf _ _ | refine eM.wm ?_ (by decide) _ _), fun x' hx' => ?_, fun x' hx' => ?_, ?_, fun k hk => ?_⟩
    · unfold G_Mo_tags
      simp (discharger := omega) only [p_w1, gd1, bi1, Int.toNat_natCast, ex, y1, q_some, ne_eq, show ¬ ((1 : Int) = 0) by decide, not_false_eq_true, if_true, p_div1, p_rem1, a0, a1, a2, a3, a4, a5, a6, rd, z9]
    · simp [wm_at, y3, hx']
    · simp only [wm_at]
      rw [if_neg (by omega), if_neg (by omega), if_neg (by omega), if_neg (by omega), if_neg (by omega), if_neg (by omega), y4, if_neg hx']
    · simp [wm_at, y3]
    · have h6 : k = 0 ∨ k = 1 ∨ k = 2 ∨ k = 3 ∨ k = 4 ∨ k = 5 := by
        rw [if_neg (by decide)] at hk
        omega
      rcases h6 with rfl | rfl | rfl | rfl | rfl | rfl <;> simp [wm_at, lbl]
theorem RR.tag {b : Nat} {c : h_C} {m : h_M} (h : RR b c m) {w pl q : Nat} (hw : w < 3) (h1 : 1 ≤ pl) (h30 : pl ≤ 30) (eq : c 101 (31 * w + pl) 0 = (q : Int)) (hp : PO b c m w pl q) {f t : Int} (hf : f = 0 ∨ f = 1) (ht : 0 ≤ t ∧ t ≤ 99) : ∃ c' m', G_Parcel_write (31 * w + pl) f t c = some c' ∧ G_Mo_tags (q : Int) f t m = some m' ∧ RR b c' m' ∧ c' 111 (31 * w + pl) 0 = (if f = 0 then 8 else 6) ∧ m' 31 q = (if f = 0 then 8 else 6) ∧ eC [2015, 111] c c' ∧ eM [31, 32] m m' := by
  have n2 := h.N.2.2.1
  obtain ⟨⟨⟨q1, q2, q3, q4⟩, _⟩, ⟨w1, w2, w3⟩, ⟨s1, s2, s3⟩, _⟩ := id hp
  obtain ⟨c', x1, x2, x3, x4, x5⟩ := s_write (j := 31 * w + pl) ⟨by omega, by omega⟩ (c := c) hf ht w1.symm s1.symm ⟨w2, w3⟩ ⟨s2, s3⟩
  obtain ⟨m', y1, y2, y3, y4, y5, y6⟩ := s_tags (q := q) (by omega) (m := m) hf ht rfl rfl ⟨w2, w3⟩ ⟨s2, s3⟩
  have hn : (if f = 0 then (8 : Int) else 6) = 8 ∨ (if f = 0 then (8 : Int) else 6) = 6 := by split <;> simp
  refine ⟨c', m', x1, y1, RR.lab h hw h1 h30 eq hp x2 y2 x3 y3 y4 (if f = 0 then 8 else 6) (by omega) x4 y5 (fun k k12 kl => ?_), x4, y5, x2, y2⟩
  rw [x5 k kl, y6 k kl]
  exact ⟨rfl, lbl_b ht ⟨w2, w3⟩ ⟨s2, s3⟩ k⟩
theorem pr_tag {b : Nat} {c : h_C} {m : h_M} (h : RR b c m) (hE : c 607 0 0 = m 102 0) (v1 v2 v3 : Int) : PR b (G_SW_tag v1 v2 v3 c) (G_Mo_tag v1 v2 v3 m) := by
  obtain ⟨w, hw, e1, e2⟩ := h.w
  rcases h.find hw e1 v1 with ⟨pl, q, rfl, p1, p30, ep, hp, f1, f2⟩ | ⟨f1, f2⟩
  case inr =>
    obtain ⟨r, c', m', z1, z2, z3⟩ := pr_refuse h (-1) (by omega)
    refine ⟨r, c', m', ?_, ?_, z3⟩
    · unfold G_SW_tag
      simp only [e2, Int.toNat_natCast, q_eta, f1, q_some]
      exact gdT (by omega) (ifF (by simp) z1)
    · unfold G_Mo_tag
      simp only [f2, q_some, q_eta]
      exact ifF (by decide) z2
  have hvp : vP (31 * w + pl) := ⟨by omega, by omega⟩
  obtain ⟨⟨⟨q1, q2, q3, q4⟩, g, k, g40, k8, z1, z2, z3, z4, z5, z6, z7⟩, ⟨w1, w2, w3⟩, ⟨s1, s2, s3⟩, ⟨t1, t2⟩, ⟨u1, u2⟩, ⟨y1, y2, y3, y4⟩, ⟨x1, x2, x3, x4⟩⟩ := id hp
  have n2 := h.N.2.2.1
  unfold G_SW_tag G_Mo_tag GB_SW_tag_43 GB_Mo_tag_36
  simp only [e2, Int.toNat_natCast, gd1 (show (0 : Int) ≤ (w : Int) ∧ (w : Int) < 3 by omega), q_eta, f1, f2, q_some, show ¬ (31 * w + pl = 0) by omega, ne_eq, not_false_eq_true, if_true, gd1 hvp, gd1 (show (0 : Int) ≤ (q : Int) ∧ (q : Int) < 2001 by omega), s_beyond]
  by_cases c1 : 0 ≤ v2 ∧ v2 ≤ 1
  case neg =>
    simp only [if_neg c1, show ¬ ((1 : Int) = 0) by decide, not_false_eq_true, if_true]
    by_cases c3 : v2 < 0
    · simp only [if_pos c3]
      exact pr_refuse h _ (by omega)
    · simp only [if_neg c3, if_pos (show 1 < v2 by omega)]
      exact pr_refuse h _ (by omega)
  simp only [if_pos c1, not_true_eq_false, if_false, if_neg (show ¬ v2 < 0 by omega), if_neg (show ¬ 1 < v2 by omega)]
  by_cases c2 : 0 ≤ v3 ∧ v3 ≤ 99
  case neg =>
    simp only [if_neg c2, show ¬ ((1 : Int) = 0) by decide, if_false]
    by_cases c3 : v3 < 0
    · simp only [if_pos c3]
      exact pr_refuse h _ (by omega)
    · simp only [if_neg c3, if_neg (show ¬ v3 ≤ 99 by omega)]
      exact pr_refuse h _ (by omega)
  simp only [if_pos c2, if_true, if_neg (show ¬ v3 < 0 by omega), if_pos c2.2]
  obtain ⟨c', m', r1, r2, r3, r4, r5, r6, r7⟩ := h.tag hw p1 p30 ep hp (f := v2) (t := v3) (by omega) c2
  rw [r1, r2, q_some, q_some, r4, r5]
  exact pr_done r3 _ (by rw [r6 607 (by decide), r7 102 (by decide)]; exact hE)
