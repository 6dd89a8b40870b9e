/-! ===== digest ===== -/
def mx (v a : Int) : Int := p_w6 ((p_w6 (31 * v)) + a)
def mv9 (m : h_M) (v : Int) : h_M := wm m 189 0 v
theorem mv9_n (m : h_M) (v : Int) : eM [189] m (mv9 m v) := by unfold mv9; exact (by repeat first | exact eM.rf _ _ | refine eM.wm ?_ (by decide) _ _)
theorem mv9_189 (m : h_M) (v : Int) : mv9 m v 189 0 = v := by unfold mv9; simp [wm_at]
theorem s_adds (m : h_M) (v a : Int) : G_Mo_adds a (mv9 m v) = some (mv9 m (mx v a)) := by
  unfold G_Mo_adds
  rw [bi1]
  congr 1
  unfold mv9 mx
  funext f j
  simp only [wm_at]
  by_cases e : f = 189 ∧ j = 0
  · simp [e]
  · rw [if_neg e, if_neg e, if_neg e]
theorem s_mixed (v a : Int) (c : h_C) : G_SW_mixed v a c = some (mx v a) := rfl
theorem RR.mv {b : Nat} {c : h_C} {m : h_M} (h : RR b c m) (v : Int) : RR b c (mv9 m v) := h.scr [] [189] (eC.rf _ _) (mv9_n m v) rfl rfl
theorem l_dslots {b : Nat} {c : h_C} {m : h_M} (h : RR b c m) {w g : Nat} (hw : w < 3) (e1 : m 100 0 = (w : Int)) (e2 : c 5000 0 0 = (w : Int)) (hg : (g : Int) < m 3 w) (k35 : Int → h_M → Option (Int × h_M)) : ∀ (d k fu : Nat) (v : Int), ((k + d : Nat) : Int) = m 6 (40 * w + g) → d < fu → ∃ r, GO_SW_mixedGear_42 fu (40 * w + g + 1) v (k : Int) c = some r ∧ GO_Mo_digest_90 k35 fu (g : Int) ((40 * w + g : Nat) : Int) (k : Int) (mv9 m v) = k35 ((g + 1 : Nat) : Int) (mv9 m r) := by
  obtain ⟨g40, i120, hj, eK, k0, k10, eL, l0, l8, lt, ln⟩ := h.gr hw hg
  have n2 := h.N.2.2.1
  have w3 : (0 : Int) ≤ (w : Int) ∧ (w : Int) < 3 := by omega
  intro d
  induction d with
  | zero =>
    intro k fu v hd hf
    obtain ⟨fu, rfl⟩ : ∃ g, fu = g + 1 := ⟨fu - 1, by omega⟩
    refine ⟨v, ?_, ?_⟩
    · show GL_SW_mixedGear_42 _ _ _ _ c = _
      unfold GL_SW_mixedGear_42
      rw [gd1 hj, eL, if_pos (by omega)]
    · show GL_Mo_digest_90 _ _ _ _ _ _ = _
      unfold GL_Mo_digest_90
      rw [gd1 (by omega), Int.toNat_natCast, mv9_n m v 6 (by decide), if_pos (by omega), p_w1 (by omega) (by omega)]
      rfl
  | succ d ih =>
    intro k fu v hd hf
    obtain ⟨fu, rfl⟩ : ∃ g, fu = g + 1 := ⟨fu - 1, by omega⟩
    have nC : ∀ x : Int, GB_SW_mixedGear_107 (GO_SW_mixedGear_42 fu) (40 * w + g + 1) (k : Int) x c = GO_SW_mixedGear_42 fu (40 * w + g + 1) x ((k + 1 : Nat) : Int) c := fun x => by
      unfold GB_SW_mixedGear_107
      rw [p_w1 (by omega) (by omega), bi1]
      rfl
    have nM : ∀ x : h_M, GB_Mo_digest_160 k35 (GO_Mo_digest_90 k35 fu) (g : Int) ((40 * w + g : Nat) : Int) (k : Int) x = GO_Mo_digest_90 k35 fu (g : Int) ((40 * w + g : Nat) : Int) ((k + 1 : Nat) : Int) x := fun x => by
      unfold GB_Mo_digest_160
      rw [p_w1 (by omega) (by omega), bi1]
      rfl
    have hC : ∀ X, (q_bv (G_State_inSlot w (40 * w + g + 1) (k : Int) c) fun r7 => if r7 ≠ 0 then p_gd (vP r7) (GO_SW_mixedGear_42 fu (40 * w + g + 1) (mx (mx v (p_w ((p_w (16 * (c 102 r7 0))) + (c 103 r7 0)))) (c 104 r7 0)) ((k + 1 : Nat) : Int) c) else GO_SW_mixedGear_42 fu (40 * w + g + 1) (mx v 0) ((k + 1 : Nat) : Int) c) = X → GO_SW_mixedGear_42 (fu + 1) (40 * w + g + 1) v (k : Int) c = X := fun X hX => by
      show GL_SW_mixedGear_42 _ _ _ _ c = _
      unfold GL_SW_mixedGear_42
      rw [gd1 hj, eL, if_neg (by omega), e2, gd1 w3, Int.toNat_natCast]
      simp only [s_mixed, q_some, nC]
      exact hX
    have hM : ∀ X, (if m 22 (8 * (40 * w + g) + k) ≠ 0 then p_gd ((0 : Int) ≤ m 22 (8 * (40 * w + g) + k) ∧ m 22 (8 * (40 * w + g) + k) < (2001 : Int)) (GB_Mo_digest_141 k35 (GO_Mo_digest_90 k35 fu) (g : Int) ((40 * w + g : Nat) : Int) (k : Int) (m 22 (8 * (40 * w + g) + k)) (p_w ((p_w (16 * (m 28 (m 22 (8 * (40 * w + g) + k)).toNat))) + (m 29 (m 22 (8 * (40 * w + g) + k)).toNat))) (mv9 m v)) else GB_Mo_digest_141 k35 (GO_Mo_digest_90 k35 fu) (g : Int) ((40 * w + g : Nat) : Int) (k : Int) (m 22 (8 * (40 * w + g) + k)) 0 (mv9 m v)) = X → GO_Mo_digest_90 k35 (fu + 1) (g : Int) ((40 * w + g : Nat) : Int) (k : Int) (mv9 m v) = X := fun X hX => by
      show GL_Mo_digest_90 _ _ _ _ _ _ = _
      unfold GL_Mo_digest_90
      rw [gd1 (by omega), Int.toNat_natCast, mv9_n m v 6 (by decide), if_neg (by omega), p_w1 (x := 8 * ((40 * w + g : Nat) : Int)) (by omega) (by omega), p_w1 (x := 8 * ((40 * w + g : Nat) : Int) + (k : Int)) (by omega) (by omega), gd1 (by omega), show (8 * ((40 * w + g : Nat) : Int) + (k : Int)).toNat = 8 * (40 * w + g) + k by omega, mv9_n m v 22 (by decide), mv9_n m v 28 (by decide), mv9_n m v 29 (by decide), bi1]
      exact hX
    rcases s_inSlot h hw hg (k := k) (by omega) with ⟨z1, z2, z3⟩ | ⟨pl, q, p1, p30, z1, z2, z3, z4, z5, z6, hp, z7⟩
    · obtain ⟨r, y1, y2⟩ := ih (k + 1) fu (mx v 0) (by omega) (by omega)
      refine ⟨r, hC _ ?_, hM _ ?_⟩
      · rw [z3, q_some, if_neg (by simp)]
        exact y1
      · rw [z2, if_neg (by simp)]
        unfold GB_Mo_digest_141
        rw [s_adds, q_some, if_pos (by omega), nM]
        exact y2
    · obtain ⟨⟨⟨q1, q2, q3, q4⟩, _⟩, ⟨w1, _⟩, ⟨s1, _⟩, ⟨t1, _⟩, _⟩ := id hp
      obtain ⟨r, y1, y2⟩ := ih (k + 1) fu (mx (mx v (p_w ((p_w (16 * (m 28 q))) + (m 29 q)))) (m 30 q)) (by omega) (by omega)
      refine ⟨r, hC _ ?_, hM _ ?_⟩
      · rw [z7, q_some, if_pos (by omega), gd1 (show vP (31 * w + pl) from ⟨by omega, by omega⟩), ← w1, ← s1, ← t1]
        exact y1
      · rw [z2, if_pos (by omega), gd1 (by omega), Int.toNat_natCast]
        unfold GB_Mo_digest_141
        rw [s_adds, q_some, if_neg (by omega), gd1 (by omega), Int.toNat_natCast, mv9_n m _ 30 (by decide), s_adds, q_some, nM]
        exact y2
theorem l_dtells {b : Nat} {c : h_C} {m : h_M} (h : RR b c m) {w g : Nat} (hw : w < 3) (e1 : m 100 0 = (w : Int)) (hg : (g : Int) < m 3 w) (k35 : Int → h_M → Option (Int × h_M)) : ∀ (d t fu : Nat) (v : Int), t + d = 15 → d < fu → ∃ r, GO_SW_mixedGear_13 fu (40 * w + g + 1) v (t : Int) c = GO_SW_mixedGear_42 3000 (40 * w + g + 1) r 0 c ∧ GO_Mo_digest_66 k35 fu (g : Int) ((40 * w + g : Nat) : Int) (t : Int) (mv9 m v) = GO_Mo_digest_90 k35 3000 (g : Int) ((40 * w + g : Nat) : Int) 0 (mv9 m r) := by
  obtain ⟨g40, i120, hj, _⟩ := h.gr hw hg
  intro d
  induction d with
  | zero =>
    intro t fu v hd hf
    obtain ⟨fu, rfl⟩ : ∃ g, fu = g + 1 := ⟨fu - 1, by omega⟩
    refine ⟨v, ?_, ?_⟩
    · show GL_SW_mixedGear_13 _ _ _ _ c = _
      unfold GL_SW_mixedGear_13
      rw [if_pos (by omega)]
    · show GL_Mo_digest_66 _ _ _ _ _ _ = _
      unfold GL_Mo_digest_66
      rw [if_pos (by omega)]
  | succ d ih =>
    intro t fu v hd hf
    obtain ⟨fu, rfl⟩ : ∃ g, fu = g + 1 := ⟨fu - 1, by omega⟩
    obtain ⟨x, x1, x2⟩ := s_tell (h.mv v) hw (by rw [mv9_n m v 100 (by decide)]; exact e1) (g := g) (by rw [mv9_n m v 3 (by decide)]; exact hg) (t : Int)
    obtain ⟨r, y1, y2⟩ := ih (t + 1) fu (mx v x) (by omega) (by omega)
    refine ⟨r, ?_, ?_⟩
    · rw [← y1]
      show GL_SW_mixedGear_13 _ _ _ _ c = _
      unfold GL_SW_mixedGear_13
      rw [if_neg (by omega), gd1 hj, x1, q_some, s_mixed, q_some, p_w1 (by omega) (by omega)]
      rfl
    · rw [← y2]
      show GL_Mo_digest_66 _ _ _ _ _ _ = _
      unfold GL_Mo_digest_66
      rw [if_neg (by omega), x2, q_some, s_adds, q_some, p_w1 (by omega) (by omega)]
      rfl
theorem l_digest {b : Nat} {c : h_C} {m : h_M} (h : RR b c m) {w : Nat} (hw : w < 3) (e1 : m 100 0 = (w : Int)) (e2 : c 5000 0 0 = (w : Int)) : ∀ (d g fu : Nat) (v : Int), ((g + d : Nat) : Int) = m 3 w → d < fu → ∃ r, GO_SW_digest_32 fu w v (g : Int) c = some r ∧ GO_Mo_digest_35 fu (g : Int) (mv9 m v) = some (r, mv9 m r) := by
  have w3 : (0 : Int) ≤ (w : Int) ∧ (w : Int) < 3 := by omega
  have f1 := (h.F.1 w)
  have m100 : ∀ v, mv9 m v 100 0 = (w : Int) := fun v => by rw [mv9_n m v 100 (by decide)]; exact e1
  intro d
  induction d with
  | zero =>
    intro g fu v hd hf
    obtain ⟨fu, rfl⟩ : ∃ g, fu = g + 1 := ⟨fu - 1, by omega⟩
    refine ⟨mx (mx (mx (mx v (m 38 w)) (m 39 w)) (m 40 w)) (m 42 w), ?_, ?_⟩
    · show GL_SW_digest_32 _ _ _ _ c = _
      unfold GL_SW_digest_32
      rw [e2, gd1 w3, Int.toNat_natCast, f1.1, if_pos (by omega), gd1 hw, (h.P.2.2.2.2 w hw).1, (h.S w hw).2.2.2, (h.L w hw).2.2.2.1, (h.L w hw).1.2.2.1, s_mixed, q_some, s_mixed, q_some, s_mixed, q_some, s_mixed, q_some]
    · show GL_Mo_digest_35 _ _ _ = _
      unfold GL_Mo_digest_35
      rw [m100, gd1 w3, Int.toNat_natCast, mv9_n m v 3 (by decide), if_pos (by omega), mv9_n m v 38 (by decide), s_adds, q_some, m100, gd1 w3, Int.toNat_natCast, mv9_n m _ 39 (by decide), s_adds, q_some, m100, gd1 w3, Int.toNat_natCast, mv9_n m _ 40 (by decide), s_adds, q_some, m100, gd1 w3, Int.toNat_natCast, mv9_n m _ 42 (by decide), s_adds, q_some, mv9_189]
  | succ d ih =>
    intro g fu v hd hf
    obtain ⟨fu, rfl⟩ : ∃ g, fu = g + 1 := ⟨fu - 1, by omega⟩
    have hg : (g : Int) < m 3 w := by omega
    obtain ⟨g40, i120, hj, eK, k0, k10, eL, l0, l8, _⟩ := h.gr hw hg
    obtain ⟨n6, hn6⟩ : ∃ n6 : Nat, m 6 (40 * w + g) = (n6 : Int) := ⟨(m 6 (40 * w + g)).toNat, by omega⟩
    have n6f : n6 < 3000 := by omega
    have gd : ((g + 1 + d : Nat) : Int) = m 3 w := by omega
    have df : d < fu := by omega
    obtain ⟨v1, x1, x2⟩ := l_dtells h hw e1 hg (GO_Mo_digest_35 fu) 13 2 3000 (mx v (m 5 (40 * w + g))) (by omega) (by omega)
    have hn60 : ((0 + n6 : Nat) : Int) = m 6 (40 * w + g) := by rw [hn6, Nat.zero_add]
    obtain ⟨v2, z1, z2⟩ := l_dslots h hw e1 e2 hg (GO_Mo_digest_35 fu) n6 0 3000 v1 hn60 n6f
    obtain ⟨r, y1, y2⟩ := ih (g + 1) fu v2 gd df
    refine ⟨r, ?_, ?_⟩
    · clear x2 z2 y2
      show GL_SW_digest_32 _ _ _ _ c = _
      unfold GL_SW_digest_32 G_SW_mixedGear
      rw [e2, gd1 w3, Int.toNat_natCast, f1.1, if_neg (show ¬ (m 3 w ≤ (g : Int)) by clear x1 z1 y1; omega), gd1 hw, gd1 (show (0 : Int) ≤ (g : Int) ∧ (g : Int) < 40 by clear x1 z1 y1; omega), Int.toNat_natCast, gd1 hj, eK, s_mixed, q_some, show GO_SW_mixedGear_13 3000 (40 * w + g + 1) _ 2 c = _ from x1, show GO_SW_mixedGear_42 3000 (40 * w + g + 1) v1 0 c = _ from z1, q_some, p_w1 (x := (g : Int) + 1) (by clear x1 z1 y1; omega) (by clear x1 z1 y1; omega)]
      exact y1
    · clear x1 z1 y1
      show GL_Mo_digest_35 _ _ _ = _
      unfold GL_Mo_digest_35
      rw [m100, gd1 w3, Int.toNat_natCast, mv9_n m v 3 (by decide), if_neg (show ¬ (m 3 w ≤ (g : Int)) by clear x2 z2 y2; omega), s_g hw (m100 v) g40, q_some, gd1 (show (0 : Int) ≤ ((40 * w + g : Nat) : Int) ∧ ((40 * w + g : Nat) : Int) < 120 by clear x2 z2 y2; omega), Int.toNat_natCast, mv9_n m v 5 (by decide), s_adds, q_some, show GO_Mo_digest_66 _ 3000 (g : Int) _ 2 _ = _ from x2, show GO_Mo_digest_90 _ 3000 (g : Int) _ 0 _ = _ from z2]
      exact y2
theorem pr_digest {b : Nat} {c : h_C} {m : h_M} (h : RR b c m) : ∃ r m', G_SW_digest c = some r ∧ G_Mo_digest m = some (r, m') ∧ RR b c m' ∧ m' 102 0 = m 102 0 := by
  obtain ⟨w, hw, e1, e2⟩ := h.w
  have w3 : (0 : Int) ≤ (w : Int) ∧ (w : Int) < 3 := by omega
  have f1 := (h.F.1 w)
  have m100 : ∀ v, mv9 m v 100 0 = (w : Int) := fun v => by rw [mv9_n m v 100 (by decide)]; exact e1
  obtain ⟨n3, hn3⟩ : ∃ n3 : Nat, m 3 w = (n3 : Int) := ⟨(m 3 w).toNat, by omega⟩
  obtain ⟨r, x1, x2⟩ := l_digest h hw e1 e2 n3 0 3000 (mx (mx 17 (m 4 w)) (m 3 w)) (by rw [hn3]; congr 1; omega) (by omega)
  refine ⟨r, mv9 m r, ?_, ?_, h.mv r, by rw [mv9_n m r 102 (by decide)]⟩
  · unfold G_SW_digest
    rw [e2, gd1 w3, Int.toNat_natCast, (h.S w hw).1, f1.1, s_mixed, q_some, s_mixed, q_some]
    exact x1
  · unfold G_Mo_digest
    rw [bi1, show wm m 189 0 17 = mv9 m 17 from rfl, m100, gd1 w3, Int.toNat_natCast, mv9_n m 17 4 (by decide), s_adds, q_some, m100, gd1 w3, Int.toNat_natCast, mv9_n m _ 3 (by decide), s_adds, q_some]
    exact x2
