theorem p_rem1 {x : Int} {n : Int} (h0 : 0 ≤ x) (hn : 0 < n) (h1 : n ≤ 2147483648) : p_rem x n = x % n := by
  unfold p_rem
  have h2 : 0 ≤ x % n := Int.emod_nonneg x (by omega)
  have h3 : x % n < n := Int.emod_lt_of_pos x hn
  rw [Int.tmod_eq_emod_of_nonneg h0, p_w1 (by omega) (by omega)]
theorem p_div1 {x n : Int} (h0 : 0 ≤ x) (hx : x < 2147483648) (hn : 0 < n) : p_div x n = x / n := by
  unfold p_div
  have h2 : 0 ≤ x / n := Int.ediv_nonneg h0 (by omega)
  have h3 : x / n ≤ x := Int.ediv_le_self n h0
  rw [Int.tdiv_eq_ediv_of_nonneg h0, p_w1 (by omega) (by omega)]
theorem pr_finding {b : Nat} {c : h_C} {m : h_M} (hb : b < 2000000000) (h : RR b c m) (v1 v2 : Int) : PP (G_SW_finding v1 v2 c) (G_Mo_finding v1 v2 m) := by
  obtain ⟨w, hw, e1, e2⟩ := h.w
  obtain ⟨⟨a1, a2, a3, a4, a5, a6⟩, _⟩ := h.L w hw
  unfold G_SW_finding G_Mo_finding G_Log_tell
  simp (discharger := omega) only [e1, e2, Int.toNat_natCast, q_some, gd1, a1, a2, a3, s_beyond]
  by_cases hv : 0 ≤ v1 ∧ v1 < 40 ∧ v1 < m 42 w ∧ 0 ≤ v2 ∧ v2 < 5
  · have q1 : p_rem (m 42 w - 1 - v1) 40 = (m 42 w - 1 - v1) % 40 := p_rem1 (by omega) (by omega) (by omega)
    have q2 : 0 ≤ (m 42 w - 1 - v1) % 40 ∧ (m 42 w - 1 - v1) % 40 < 40 := ⟨Int.emod_nonneg _ (by omega), Int.emod_lt_of_pos _ (by omega)⟩
    obtain ⟨t, ht⟩ : ∃ t : Nat, (m 42 w - 1 - v1) % 40 = (t : Int) := ⟨((m 42 w - 1 - v1) % 40).toNat, by omega⟩
    rw [ht] at q1
    obtain ⟨k, rfl⟩ : ∃ k : Nat, v2 = (k : Int) := ⟨v2.toNat, by omega⟩
    have q3 : (if 2 * w % 2 = 0 then 200 else 150 : Nat) = 200 := if_pos (by omega)
    simp (discharger := omega) only [p_w1, q1, q3, if_pos, if_neg, gd1, q_some, ↓reduceIte]
    refine ⟨m 43 (200 * w + (5 * t + k)), ?_, ?_⟩
    · rw [show ((t : Int) * 5 + (k : Int)).toNat = 5 * t + k by omega, a6 _ (by omega)]
    · rw [show (5 * (40 * (w : Int) + (t : Int)) + (k : Int)).toNat = 200 * w + (5 * t + k) by omega]
  · refine ⟨-9, ?_, ?_⟩
    · by_cases c1 : v1 < 0
      · rw [if_pos c1]; rfl
      · by_cases c2 : 40 ≤ v1
        · rw [if_neg c1, if_pos c2]; rfl
        · by_cases c3 : m 42 w ≤ v1
          · rw [if_neg c1, if_neg c2, if_pos c3]; rfl
          · by_cases c4 : v2 < 0
            · rw [if_neg c1, if_neg c2, if_neg c3, if_pos c4]; rfl
            · rw [if_neg c1, if_neg c2, if_neg c3, if_neg c4, if_neg (by omega)]; rfl
    · by_cases c1 : v1 < 0
      · rw [if_pos c1]
      · by_cases c2 : 40 ≤ v1
        · rw [if_neg c1, if_pos c2]
        · by_cases c3 : m 42 w ≤ v1
          · rw [if_neg c1, if_neg c2, if_pos c3]
          · rw [if_neg c1, if_neg c2, if_neg c3]
            refine ifF (fun z => ?_) rfl
            rw [if_neg (by omega)] at z
            exact absurd z (by decide)
theorem pr_out {b : Nat} {c : h_C} {m : h_M} (hb : b < 2000000000) (h : RR b c m) (v1 v2 : Int) : PP (G_SW_out v1 v2 c) (G_Mo_out v1 v2 m) := by
  obtain ⟨w, hw, e1, e2⟩ := h.w
  obtain ⟨_, ⟨a1, a2, a3, a4, a5, a6⟩⟩ := h.L w hw
  unfold G_SW_out G_Mo_out G_Log_tell
  simp (discharger := omega) only [e1, e2, Int.toNat_natCast, q_some, gd1, a1, a2, a3, s_beyond]
  by_cases hv : 0 ≤ v1 ∧ v1 < 30 ∧ v1 < m 40 w ∧ 0 ≤ v2 ∧ v2 < 4
  · have q1 : p_rem (m 40 w - 1 - v1) 30 = (m 40 w - 1 - v1) % 30 := p_rem1 (by omega) (by omega) (by omega)
    have q2 : 0 ≤ (m 40 w - 1 - v1) % 30 ∧ (m 40 w - 1 - v1) % 30 < 30 := ⟨Int.emod_nonneg _ (by omega), Int.emod_lt_of_pos _ (by omega)⟩
    obtain ⟨t, ht⟩ : ∃ t : Nat, (m 40 w - 1 - v1) % 30 = (t : Int) := ⟨((m 40 w - 1 - v1) % 30).toNat, by omega⟩
    rw [ht] at q1
    obtain ⟨k, rfl⟩ : ∃ k : Nat, v2 = (k : Int) := ⟨v2.toNat, by omega⟩
    have q3 : (if (2 * w + 1) % 2 = 0 then 200 else 150 : Nat) = 150 := if_neg (by omega)
    simp (discharger := omega) only [p_w1, q1, q3, if_pos, if_neg, gd1, q_some, ↓reduceIte]
    refine ⟨m 41 (120 * w + 4 * t + k), ?_, ?_⟩
    · rw [show ((t : Int) * 5 + (k : Int)).toNat = 5 * t + k by omega, a6 _ _ (by omega) (by omega)]
    · rw [show (4 * (30 * (w : Int) + (t : Int)) + (k : Int)).toNat = 120 * w + 4 * t + k by omega]
  · refine ⟨-9, ?_, ?_⟩
    · by_cases c1 : v1 < 0
      · rw [if_pos c1]; rfl
      · by_cases c2 : 30 ≤ v1
        · rw [if_neg c1, if_pos c2]; rfl
        · by_cases c3 : m 40 w ≤ v1
          · rw [if_neg c1, if_neg c2, if_pos c3]; rfl
          · by_cases c4 : v2 < 0
            · rw [if_neg c1, if_neg c2, if_neg c3, if_pos c4]; rfl
            · rw [if_neg c1, if_neg c2, if_neg c3, if_neg c4, if_neg (by omega)]; rfl
    · by_cases c1 : v1 < 0
      · rw [if_pos c1]
      · by_cases c2 : 30 ≤ v1
        · rw [if_neg c1, if_pos c2]
        · by_cases c3 : m 40 w ≤ v1
          · rw [if_neg c1, if_neg c2, if_pos c3]
          · rw [if_neg c1, if_neg c2, if_neg c3]
            refine ifF (fun z => ?_) rfl
            rw [if_neg (by omega)] at z
            exact absurd z (by decide)
theorem pr_trace {b : Nat} {c : h_C} {m : h_M} (h : RR b c m) (v1 : Int) : PP (G_SW_trace v1 c) (G_Mo_trace v1 m) := by
  obtain ⟨w, hw, e1, e2⟩ := h.w
  obtain ⟨a1, a2, a3, a4⟩ := h.T w hw
  unfold G_SW_trace G_Mo_trace GB_SW_trace_21 GB_Mo_trace_23
  simp (discharger := omega) only [e1, e2, Int.toNat_natCast, q_some, gd1, a1, p_w1]
  by_cases hv : 0 ≤ v1 ∧ v1 < m 44 w ∧ v1 < 60
  · obtain ⟨k, rfl⟩ : ∃ k : Nat, v1 = (k : Int) := ⟨v1.toNat, by omega⟩
    simp (discharger := omega) only [if_pos, if_neg, Int.toNat_natCast]
    rw [show (60 * (w : Int) + (k : Int)).toNat = 60 * w + k by omega, a4 k (by omega)]
    exact PP.rf _
  · repeat' split
    all_goals first | exact PP.rf _ | (exfalso; omega)
theorem pr_rule {b : Nat} {c : h_C} {m : h_M} (h : RR b c m) (v1 v2 : Int) : PP (G_SW_rule v1 v2 c) (G_Mo_rule_1 v1 v2 m) := by
  obtain ⟨w, hw, e1, e2⟩ := h.w
  obtain ⟨⟨u1, u2, u3⟩, u4, _⟩ := h.U w hw
  unfold G_SW_rule G_Mo_rule_1
  simp (discharger := omega) only [e1, e2, Int.toNat_natCast, q_some, gd1, u1, p_w1, s_beyond, bi1]
  by_cases hv : 0 ≤ v1 ∧ v1 < m 48 w
  · obtain ⟨k, rfl⟩ : ∃ k : Nat, v1 = (k : Int) := ⟨v1.toNat, by omega⟩
    obtain ⟨⟨r1, _⟩, ⟨r2, _⟩, r3, _⟩ := u4 k (by omega) (by omega)
    simp only [if_pos (show 0 ≤ (k : Int) ∧ (k : Int) ≤ m 48 w - 1 by omega), p_w1 (show -2147483648 ≤ 12 * (w : Int) + (k : Int) by omega) (by omega), Int.toNat_natCast, gd1 (show 0 ≤ 12 * (w : Int) + (k : Int) ∧ 12 * (w : Int) + (k : Int) < 36 by omega), show (12 * (w : Int) + (k : Int)).toNat = 12 * w + k by omega, r1, r2, r3, show ¬ ((k : Int) < 0) by omega, show (k : Int) < m 48 w by omega, if_true, if_false, ne_eq, not_true_eq_false]
    repeat' split
    all_goals first | exact PP.rf _ | (exfalso; omega) | (refine PP.mk _ rfl ?_; exact gdT (by omega) rfl)
  · rw [if_pos (show ¬ (if 0 ≤ v1 ∧ v1 ≤ m 48 w - 1 then (0 : Int) else 1) = 0 by rw [if_neg (by omega)]; decide)]
    repeat' split
    all_goals first | exact PP.rf _ | (exfalso; omega)
theorem p_w0 {x : Int} (h0 : -2147483748 ≤ x) (h1 : x < 2147483648) : p_w x = 0 ↔ x = 0 := by
  unfold p_w
  rw [Int32.toInt_ofInt]
  constructor
  · intro h
    rw [Int.bmod_def, show Int32.size = 4294967296 from rfl] at h
    split at h <;> omega
  · intro h
    subst h
    rfl
theorem p_wsub {x y : Int} : p_w (p_w x - y) = p_w (x - y) := by
  unfold p_w
  rw [Int32.toInt_ofInt, Int32.toInt_ofInt, Int32.toInt_ofInt]
  exact Int.bmod_sub_bmod
theorem pr_unused {b : Nat} {c : h_C} {m : h_M} (h : RR b c m) (v1 : Int) (hc : p_c v1) : PP (G_SW_unused v1 c) (G_Mo_unused v1 m) := by
  obtain ⟨w, hw, e1, e2⟩ := h.w
  obtain ⟨⟨u1, u2, u3⟩, u4, _⟩ := h.U w hw
  have key : ∀ (d k fu : Nat) (s : Int), k + d = (m 48 w).toNat → d < fu → 0 ≤ s → s ≤ k → PP (GO_SW_unused_4 fu v1 s (k : Int) c) (GO_Mo_unused_4 fu (p_w (v1 - s)) (k : Int) m) := by
    intro d
    induction d with
    | zero =>
      intro k fu s hk hf s0 sk
      obtain ⟨fu, rfl⟩ : ∃ g, fu = g + 1 := ⟨fu - 1, by omega⟩
      refine ⟨-9, ?_, ?_⟩
      · show GL_SW_unused_4 _ _ _ _ c = _
        unfold GL_SW_unused_4
        simp (discharger := omega) only [e2, Int.toNat_natCast, gd1, u1]
        exact ifT (by omega) rfl
      · show GL_Mo_unused_4 _ _ _ m = _
        unfold GL_Mo_unused_4
        simp (discharger := omega) only [e1, Int.toNat_natCast, gd1]
        exact ifT (by omega) rfl
    | succ d ih =>
      intro k fu s hk hf s0 sk
      obtain ⟨fu, rfl⟩ : ∃ g, fu = g + 1 := ⟨fu - 1, by omega⟩
      obtain ⟨_, _, r3, _⟩ := u4 k (by omega) (by omega)
      show PP (GL_SW_unused_4 _ _ _ _ c) (GL_Mo_unused_4 _ _ _ m)
      unfold GL_SW_unused_4 GL_Mo_unused_4 GB_SW_unused_43 GB_Mo_unused_43
      simp (discharger := omega) only [e1, e2, Int.toNat_natCast, gd1, u1, bi1, p_w1]
      simp only [if_neg (show ¬ (m 48 w ≤ (k : Int)) by omega)]
      rw [show (12 * (w : Int) + (k : Int)).toNat = 12 * w + k by omega, r3, show (k : Int) + 1 = ((k + 1 : Nat) : Int) by omega]
      by_cases z : m 51 (12 * w + k) = 0
      · simp only [z, ne_eq, not_true_eq_false, if_false]
        have hz := p_w0 (x := v1 - s) (by omega) (by omega)
        by_cases zs : s = v1
        · have n0 : p_w (v1 - s) = 0 := hz.mpr (by omega)
          simp only [zs, not_true_eq_false, if_false]
          rw [zs] at n0
          simp only [n0, not_true_eq_false, if_false]
          exact PP.rf _
        · have n0 : ¬ p_w (v1 - s) = 0 := fun q => zs (by have := hz.mp q; omega)
          simp only [zs, n0, not_false_eq_true, if_true]
          have := ih (k + 1) fu (s + 1) (by omega) (by omega) (by omega) (by omega)
          rw [show p_w (v1 - s) + -1 = p_w (v1 - s) - 1 by omega, p_wsub, show v1 - s - 1 = v1 - (s + 1) by omega]
          exact this
      · simp only [z, ne_eq, not_false_eq_true, if_true]
        exact ih (k + 1) fu s (by omega) (by omega) s0 (by omega)
  have := key (m 48 w).toNat 0 3000 0 (by omega) (by omega) (by omega) (by omega)
  rw [show v1 - 0 = v1 by omega, p_w_id hc] at this
  exact this
theorem pr_jam {b : Nat} {c : h_C} {m : h_M} (h : RR b c m) (v1 : Int) (hc : p_c v1) : PP (G_SW_jam v1 c) (G_Mo_jam v1 m) := by
  obtain ⟨w, hw, e1, e2⟩ := h.w
  have f1 := h.F.1 w
  have key : ∀ (d k fu : Nat) (s : Int), k + d = (m 3 w).toNat → d < fu → 0 ≤ s → s ≤ k → PP (GO_SW_jam_4 fu v1 s (k : Int) c) (GO_Mo_jam_4 fu (p_w (v1 - s)) (k : Int) m) := by
    intro d
    induction d with
    | zero =>
      intro k fu s hk hf s0 sk
      obtain ⟨fu, rfl⟩ : ∃ g, fu = g + 1 := ⟨fu - 1, by omega⟩
      refine ⟨-9, ?_, ?_⟩
      · show GL_SW_jam_4 _ _ _ _ c = _
        unfold GL_SW_jam_4
        simp (discharger := omega) only [e2, Int.toNat_natCast, gd1, f1.1]
        exact ifT (by omega) rfl
      · show GL_Mo_jam_4 _ _ _ m = _
        unfold GL_Mo_jam_4
        simp (discharger := omega) only [e1, Int.toNat_natCast, gd1]
        exact ifT (by omega) rfl
    | succ d ih =>
      intro k fu s hk hf s0 sk
      obtain ⟨fu, rfl⟩ : ∃ g, fu = g + 1 := ⟨fu - 1, by omega⟩
      have hg : (k : Int) < m 3 w := by omega
      obtain ⟨g40, i120, hj, eK, k0, k10, eL, l0, l8, lt, ln⟩ := h.gr hw hg
      have a3 := (h.G.1 (40 * w + k)).1.2.2.1
      show PP (GL_SW_jam_4 _ _ _ _ c) (GL_Mo_jam_4 _ _ _ m)
      unfold GL_SW_jam_4 GL_Mo_jam_4 GB_SW_jam_43 GB_Mo_jam_38
      simp (discharger := omega) only [e1, e2, Int.toNat_natCast, gd1, f1.1, bi1, p_w1, s_g hw e1 g40, q_some, s_mJam i120, s_cJam hj, eK, a3]
      simp only [if_neg (show ¬ (m 3 w ≤ (k : Int)) by omega)]
      rw [show (k : Int) + 1 = ((k + 1 : Nat) : Int) by omega]
      by_cases z : m 5 (40 * w + k) < 9 ∧ 8 ≤ m 16 (40 * w + k)
      · simp only [if_pos z, if_pos (show 8 ≤ m 16 (40 * w + k) ∧ 0 ≤ m 5 (40 * w + k) ∧ m 5 (40 * w + k) < 9 by omega)]
        have hz := p_w0 (x := v1 - s) (by omega) (by omega)
        simp only [show ¬ ((1 : Int) = 0) by decide, if_false, ne_eq]
        by_cases zs : s = v1
        · have n0 : p_w (v1 - s) = 0 := hz.mpr (by omega)
          simp only [zs, not_true_eq_false, if_false]
          rw [zs] at n0
          simp only [n0, not_true_eq_false, if_false]
          exact PP.rf _
        · have n0 : ¬ p_w (v1 - s) = 0 := fun q => zs (by have := hz.mp q; omega)
          simp only [zs, n0, not_false_eq_true, if_true]
          have := ih (k + 1) fu (s + 1) (by omega) (by omega) (by omega) (by omega)
          rw [show p_w (v1 - s) + -1 = p_w (v1 - s) - 1 by omega, p_wsub, show v1 - s - 1 = v1 - (s + 1) by omega]
          exact this
      · simp only [if_neg z, if_neg (show ¬ (8 ≤ m 16 (40 * w + k) ∧ 0 ≤ m 5 (40 * w + k) ∧ m 5 (40 * w + k) < 9) by omega)]
        simp only [if_true]
        exact ih (k + 1) fu s (by omega) (by omega) s0 (by omega)
  have := key (m 3 w).toNat 0 3000 0 (by omega) (by omega) (by omega) (by omega)
  rw [show v1 - 0 = v1 by omega, p_w_id hc] at this
  exact this
theorem pr_audit {b : Nat} {c : h_C} {m : h_M} (h : RR b c m) : PP (G_SW_audit c) (G_Mo_audit m) := by
  obtain ⟨w, hw, e1, e2⟩ := h.w
  have f1 := h.F.1 w
  have key : ∀ (d k fu : Nat), k + d = (m 3 w).toNat → d < fu → PP (GO_SW_audit_2 fu (k : Int) c) (GO_Mo_audit_2 fu (k : Int) m) := by
    intro d
    induction d with
    | zero =>
      intro k fu hk hf
      obtain ⟨fu, rfl⟩ : ∃ g, fu = g + 1 := ⟨fu - 1, by omega⟩
      refine ⟨-9, ?_, ?_⟩
      · show GL_SW_audit_2 _ _ c = _
        unfold GL_SW_audit_2
        simp (discharger := omega) only [e2, Int.toNat_natCast, gd1, f1.1]
        exact ifT (by omega) rfl
      · show GL_Mo_audit_2 _ _ m = _
        unfold GL_Mo_audit_2
        simp (discharger := omega) only [e1, Int.toNat_natCast, gd1]
        exact ifT (by omega) rfl
    | succ d ih =>
      intro k fu hk hf
      obtain ⟨fu, rfl⟩ : ∃ g, fu = g + 1 := ⟨fu - 1, by omega⟩
      have hg : (k : Int) < m 3 w := by omega
      obtain ⟨g40, i120, hj, eK, k0, k10, eL, l0, l8, lt, ln⟩ := h.gr hw hg
      have a5 := (h.G.1 (40 * w + k)).1.2.2.2.2.1
      have a6 := (h.G.1 (40 * w + k)).1.2.2.2.2.2.1
      show PP (GL_SW_audit_2 _ _ c) (GL_Mo_audit_2 _ _ m)
      unfold GL_SW_audit_2 GL_Mo_audit_2
      simp (discharger := omega) only [e1, e2, Int.toNat_natCast, gd1, f1.1, bi1, s_g hw e1 g40, q_some, s_parcels h hw hg, s_load i120 l0 l8, a5, a6]
      simp only [if_neg (show ¬ (m 3 w ≤ (k : Int)) by omega)]
      rw [p_w1 (x := (k : Int) + 1) (by omega) (by omega), show (k : Int) + 1 = ((k + 1 : Nat) : Int) by omega]
      by_cases z : p_w (m 18 (40 * w + k) - m 19 (40 * w + k)) = (ld m (40 * w + k) : Int)
      · simp only [z, if_true]
        exact ih (k + 1) fu (by omega) (by omega)
      · simp only [z, if_false]
        exact PP.rf _
  exact key (m 3 w).toNat 0 3000 (by omega) (by omega)
