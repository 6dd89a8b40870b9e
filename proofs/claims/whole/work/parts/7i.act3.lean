/-- the act of a gear begins -/
theorem ZZ.begin {b : Nat} {c : h_C} {m : h_M} {w : Nat} {F L : Int} (h : ZZ b c m w F L) (x : Int) : ZZ b (wc c 804 0 0 0) (wm (wm m 171 0 x) 172 0 0) w F L := by
  have n1 : eC [804] c (wc c 804 0 0 0) := (by repeat first | exact eC.rf _ _ | refine eC.wc ?_ (by decide) _ _ _ | refine eC.sr ?_ (by decide) _ _)
  have n2 : eM [171, 172] m (wm (wm m 171 0 x) 172 0 0) := (by repeat first | exact eM.rf _ _ | refine eM.wm ?_ (by decide) _ _)
  obtain ⟨hR, ⟨h1, h2, h3, h4, h5, h6⟩, h7, h8, h9, h10⟩ := h
  refine ⟨hR.scr _ _ n1 n2 rfl rfl, ⟨h1, ?_, ?_, ?_, ?_, ?_⟩, ?_, ?_, ?_, ?_⟩
  · rw [n2 100 (by decide)]; exact h2
  · rw [n1 5000 (by decide)]; exact h3
  · rw [n1 5001 (by decide)]; exact h4
  · rw [n1 5002 (by decide)]; exact h5
  · rw [n1 5003 (by decide)]; exact h6
  · unfold MV
    rw [n1 101 (by decide), n1 108 (by decide), n2 36 (by decide)]; exact h7
  · exact Or.inr (Or.inl ⟨by simp [wc_at], by simp [wm_at]⟩)
  · rw [n1 607 (by decide)]; exact h9
  · rw [n2 102 (by decide), n2 42 (by decide)]; exact h10
theorem ZZ.act {b : Nat} (hb : b < 900000000) {c : h_C} {m : h_M} {w : Nat} {F L : Int} (h : ZZ b c m w F L) (hCH : CH c m w) {g : Nat} (hg : (g : Int) < m 3 w) : ∃ c' m', G_Step_act (g : Int) c = some c' ∧ G_Mo_act (g : Int) m = some m' ∧ ZZ (b + 19) c' m' w F L ∧ eC aC c c' ∧ eM (171 :: aM) m m' := by
  obtain ⟨hR, ⟨hw, e1, e2, e3, e4, e5⟩, hMV, _⟩ := id h
  obtain ⟨g40, i120, hj, eK, k0, k10, eL, l0, l8, lt, ln⟩ := hR.gr hw hg
  have w3 : (0 : Int) ≤ (w : Int) ∧ (w : Int) < 3 := by omega
  have i12 : (0 : Int) ≤ ((40 * w + g : Nat) : Int) ∧ ((40 * w + g : Nat) : Int) < 120 := by omega
  obtain ⟨K, hK⟩ : ∃ K : Nat, m 5 (40 * w + g) = (K : Int) := ⟨(m 5 (40 * w + g)).toNat, by omega⟩
  have n1 : eC [804] c (wc c 804 0 0 0) := (by repeat first | exact eC.rf _ _ | refine eC.wc ?_ (by decide) _ _ _ | refine eC.sr ?_ (by decide) _ _)
  have n2 : eM [171, 172] m (wm (wm m 171 0 (g : Int)) 172 0 0) := (by repeat first | exact eM.rf _ _ | refine eM.wm ?_ (by decide) _ _)
  have hB := h.begin (g : Int)
  have ha : (wm (wm m 171 0 (g : Int)) 172 0 0) 171 0 = (g : Int) := by simp [wm_at]
  have hC : G_Step_act (g : Int) c = GO_Step_act_22 3000 (g : Int) (40 * w + g + 1) ((3 * K : Nat) : Int) (wc c 804 0 0 0) := by
    unfold G_Step_act
    rw [e5, gd1 w3, gd1 (by omega), Int.toNat_natCast, Int.toNat_natCast, bi1, n1 0 (by decide), eK, hK, p_w1 (by omega) (by omega), bi1]
    rfl
  have hM : ∀ X, (if K = 9 then (q_bv (G_Mo_body 10 (wm (wm m 171 0 (g : Int)) 172 0 0)) fun m23 => GB_Mo_act_66 ((40 * w + g : Nat) : Int) m23) else if K = 10 then (q_bv (G_Mo_body 11 (wm (wm m 171 0 (g : Int)) 172 0 0)) fun m17 => q_bv (G_Mo_actPanel (g : Int) m17) fun m20 => GB_Mo_act_66 ((40 * w + g : Nat) : Int) m20) else (q_bv (G_Mo_actTaker (g : Int) (wm (wm m 171 0 (g : Int)) 172 0 0)) fun m14 => GB_Mo_act_66 ((40 * w + g : Nat) : Int) m14)) = X → G_Mo_act (g : Int) m = X := by
    intro X hX
    unfold G_Mo_act
    rw [s_g hw e1 g40, q_some, bi1, bi1, gd1 i12, Int.toNat_natCast, n2 5 (by decide), hK, ← hX]
    by_cases k9 : K = 9
    · rw [if_neg (show ¬ (K : Int) ≠ 9 by omega), if_pos k9]
    · rw [if_pos (show (K : Int) ≠ 9 by omega), if_neg k9]
      by_cases k1 : K = 10
      · rw [if_neg (show ¬ (K : Int) ≠ 10 by omega), if_pos k1]
      · rw [if_pos (show (K : Int) ≠ 10 by omega), if_neg k1]
  generalize hc0 : wc c 804 0 0 0 = c0 at n1 hB hC
  generalize hm0 : wm (wm m 171 0 (g : Int)) 172 0 0 = m0 at n2 hB ha hM
  have hg0 : (g : Int) < m0 3 w := by rw [n2 3 (by decide)]; exact hg
  have hK0 : m0 5 (40 * w + g) = (K : Int) := by rw [n2 5 (by decide)]; exact hK
  have eK0 : c0 0 (40 * w + g + 1) 0 = (K : Int) := by rw [n1 0 (by decide), eK, hK]
  by_cases k9 : K < 9
  · obtain ⟨c1, m1, a1, a2, a3, a4, a5⟩ := hB.taker hb (hCH.of n1 n2 rfl rfl) hg0 ha hK0 k9 2996
    obtain ⟨c2, m2, b1, b2, b3, b4, b5⟩ := a3.lamp (g := g) (by rw [a5 3 (by decide)]; exact hg0) (by rw [a5 171 (by decide)]; exact ha)
    refine ⟨c2, m2, ?_, hM _ ?_, b3, ((n1.up (by decide)).tr a4).tr (b4.up (by decide)), ((n2.up (by decide)).tr (a5.up (by decide))).tr (b5.up (by decide))⟩
    · rw [hC, show (3000 : Nat) = 2996 + 4 from rfl, a1]; exact b1
    · rw [if_neg (by omega), if_neg (by omega), a2, q_some]; exact b2
  obtain ⟨c1, m1, a1, a2, a3, a4, a5⟩ := hB.act3 (by omega) hj (g : Int) (K := K) (by omega) eK0 2997
  have e1c : c1 0 (40 * w + g + 1) 0 = (K : Int) := by rw [a4 0 (by decide)]; exact eK0
  have hg1 : (g : Int) < m1 3 w := by rw [a5 3 (by decide)]; exact hg0
  have C1 : ∀ X, (if K = 10 then q_bv (G_Step_setDial (g : Int) (40 * w + g + 1) c1) (fun c11 => GB_Step_act_116 (40 * w + g + 1) c11) else GB_Step_act_116 (40 * w + g + 1) c1) = X → G_Step_act (g : Int) c = X := by
    intro X hX
    rw [hC, show (3000 : Nat) = 2997 + 3 from rfl, a1, show (2997 : Nat) = 2996 + 1 from rfl]
    show GL_Step_act_22 _ _ _ _ c1 = _
    unfold GL_Step_act_22
    rw [gd1 hj, e1c, p_w1 (x := (K : Int) + 1) (by omega) (by omega), p_w1 (x := 3 * ((K : Int) + 1)) (by omega) (by omega), if_pos (by omega), s_cTaker hj, e1c, if_neg (by omega), q_some, if_pos rfl, ← hX]
    by_cases k1 : K = 10
    · rw [if_neg (show ¬ (K : Int) ≠ 10 by omega), if_pos k1]
    · rw [if_pos (show (K : Int) ≠ 10 by omega), if_neg k1]
  have one : ∀ v : Int, bodL K = [v] → G_Mo_body v m0 = some m1 := fun v hv => by
    rw [hv] at a2
    have h' : (q_bv (G_Mo_body v m0) fun m1 => bds [] m1) = some m1 := a2
    cases e : G_Mo_body v m0 with
    | none => rw [e] at h'; cases h'
    | some m9 => rw [e, q_some] at h'; exact h'
  by_cases k1 : K = 10
  · subst k1
    obtain ⟨c2, m2, b1, b2, b3, b4, b5⟩ := a3.dial (by omega) hg1 (by rw [a5 171 (by decide)]; exact ha)
    obtain ⟨c3, m3, d1, d2, d3, d4, d5⟩ := b3.lamp (g := g) (by rw [b5 3 (by decide)]; exact hg1) (by rw [b5 171 (by decide), a5 171 (by decide)]; exact ha)
    refine ⟨c3, m3, C1 _ ?_, hM _ ?_, d3.more (by omega), (((n1.up (by decide)).tr (a4.up (by decide))).tr (b4.up (by decide))).tr (d4.up (by decide)), (((n2.up (by decide)).tr (a5.up (by decide))).tr (b5.up (by decide))).tr (d5.up (by decide))⟩
    · rw [if_pos rfl, b1, q_some]; exact d1
    · rw [if_neg (by decide), if_pos rfl, one 11 rfl, q_some, b2, q_some]; exact d2
  · obtain rfl : K = 9 := by omega
    obtain ⟨c3, m3, d1, d2, d3, d4, d5⟩ := a3.lamp hg1 (by rw [a5 171 (by decide)]; exact ha)
    refine ⟨c3, m3, C1 _ ?_, hM _ ?_, d3.more (by omega), ((n1.up (by decide)).tr (a4.up (by decide))).tr (d4.up (by decide)), ((n2.up (by decide)).tr (a5.up (by decide))).tr (d5.up (by decide))⟩
    · rw [if_neg k1]; exact d1
    · rw [if_pos rfl, one 10 rfl, q_some]; exact d2
