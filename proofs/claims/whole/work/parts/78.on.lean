def aT (v1 v2 v3 v5 v6 v7 : Int) (m3 : h_M) : Option h_M :=
  if v6 = 0 then
    GB_Mo_actTaker_186 v2 v6 0 m3
  else
    if v7 ≠ 0 then
      GB_Mo_actTaker_186 v2 v6 0 m3
    else
      if v3 ≠ 7 then
        if v3 ≠ 8 then
          GB_Mo_actTaker_152 v1 v2 v3 v5 v6 m3
        else
          p_gd ((0 : Int) ≤ v2 ∧ v2 < (120 : Int)) <|
          if (m3 13 (v2 : Int).toNat) ≤ 0 then
            GB_Mo_actTaker_186 v2 v6 0 m3
          else
            GB_Mo_actTaker_152 v1 v2 v3 v5 v6 m3
      else
        q_bd (G_Mo_givesOut v1 v5 m3) fun r12 m13 =>
        GB_Mo_actTaker_186 v2 v6 r12 m13
theorem aT_eq (v1 v2 v3 v5 v6 v7 : Int) (m0 : h_M) : GB_Mo_actTaker_101 v1 v2 v3 v5 v6 v7 m0 = q_bv (G_Mo_bodiesLast v3 m0) fun m3 => aT v1 v2 v3 v5 v6 v7 m3 := rfl
theorem wm_self (m : h_M) (f i : Nat) : wm m f i (m f i) = m := by
  funext f' x
  rw [wm_at]
  by_cases e : f' = f ∧ x = i
  · rw [if_pos e, e.1, e.2]
  · rw [if_neg e]
theorem a213 {i : Nat} (hi : i < 120) {m : h_M} (hl : 1 ≤ m 6 i ∧ m 6 i ≤ 8) (x : Int) : GB_Mo_actTaker_213 (i : Int) x (i : Int) m = GO_Mo_actTaker_224 3000 (i : Int) (m 6 i - 2) (wm m 16 i x) := by
  have r1 : (wm m 16 i x) 6 i = m 6 i := by simp [wm_at]
  unfold GB_Mo_actTaker_213
  rw [gd1 (by omega), Int.toNat_natCast, bi1, gd1 (by omega), r1, p_w1 (by omega) (by omega), bi1]
theorem a186w {i : Nat} (hi : i < 120) {m : h_M} (hl : 1 ≤ m 6 i ∧ m 6 i ≤ 8) : GB_Mo_actTaker_186 (i : Int) 1 0 m = GO_Mo_actTaker_224 3000 (i : Int) (m 6 i - 2) (wm m 16 i (p_w (m 16 i + 1))) := by
  unfold GB_Mo_actTaker_186
  rw [if_neg (by omega), if_pos rfl, gd1 (by omega), Int.toNat_natCast]
  exact a213 hi hl _
theorem a186g {i : Nat} (hi : i < 120) {m : h_M} (hl : 1 ≤ m 6 i ∧ m 6 i ≤ 8) : GB_Mo_actTaker_186 (i : Int) 1 1 m = GO_Mo_actTaker_224 3000 (i : Int) (m 6 i - 2) (wm m 16 i 0) := by
  unfold GB_Mo_actTaker_186 GB_Mo_actTaker_201
  rw [if_neg (by omega), if_neg (by omega)]
  exact a213 hi hl _
theorem a186z {i : Nat} (hi : i < 120) {m : h_M} (hl : 1 ≤ m 6 i ∧ m 6 i ≤ 8) (v : Int) : GB_Mo_actTaker_186 (i : Int) 0 v m = GO_Mo_actTaker_224 3000 (i : Int) (m 6 i - 2) (wm m 16 i 0) := by
  unfold GB_Mo_actTaker_186 GB_Mo_actTaker_201
  rw [if_pos rfl]
  exact a213 hi hl _
def fC : List Nat := 8 :: 14 :: gC
def fM : List Nat := 16 :: 13 :: gM
/-- what waits in the last slot goes on, or waits -/
theorem ZZ.on {b : Nat} (hb : b < 1000000000) {c : h_C} {m : h_M} {w : Nat} {F L : Int} (h : ZZ b c m w F L) (hCH : CH c m w) {g k : Nat} (hg : (g : Int) < m 3 w) (ha : m 171 0 = (g : Int)) (hk : m 5 (40 * w + g) < 9) (hk1 : m 6 (40 * w + g) = ((k + 1 : Nat) : Int)) (v5 v6 v7 : Int) (h5 : v5 = m 22 (8 * (40 * w + g) + k)) (h6 : v6 = if 0 < v5 ∧ m 36 v5.toNat = 0 then 1 else 0) : ∃ c' m', G_Step_passOn (g : Int) (40 * w + g + 1) (if v7 = 0 then 1 else 0) c = some c' ∧ aT (g : Int) ((40 * w + g : Nat) : Int) (m 5 (40 * w + g)) v5 v6 v7 m = GO_Mo_actTaker_224 3000 ((40 * w + g : Nat) : Int) (m 6 (40 * w + g) - 2) m' ∧ ZZ (b + 3) c' m' w F L ∧ eC fC c c' ∧ eM fM m m' := by
  obtain ⟨hR, ⟨hw, e1, e2, e3, e4, e5⟩, hMV, _⟩ := id h
  obtain ⟨g40, i120, hj, eK, k0, k10, eL, l0, l8, lt, ln⟩ := hR.gr hw hg
  have len1 := lt hk
  obtain ⟨k', k8, hk2, hin⟩ := s_inLast hR hw hg hk
  have ek : k' = k := by omega
  subst ek
  -- where it waits, and where it goes
  have wait : ∀ (b1 : Nat) (c1 : h_C) (m1 : h_M), ZZ b1 c1 m1 w F L → b1 ≤ b + 3 → eC gC c c1 → eM gM m m1 → ∃ c' m', GB_Step_passOn_90 (40 * w + g + 1) c1 = some c' ∧ GB_Mo_actTaker_186 ((40 * w + g : Nat) : Int) 1 0 m1 = GO_Mo_actTaker_224 3000 ((40 * w + g : Nat) : Int) (m 6 (40 * w + g) - 2) m' ∧ ZZ (b + 3) c' m' w F L ∧ eC fC c c' ∧ eM fM m m' := by
    intro b1 c1 m1 h1 hb1 y1 y2
    have r6 : m1 6 = m 6 := y2 6 (by decide)
    have r8 := (h1.1.G.1 (40 * w + g)).1.2.2.1
    have n1 : eC [8] c1 (wc c1 8 (40 * w + g + 1) 0 (p_w (m1 16 (40 * w + g) + 1))) := (by repeat first | exact eC.rf _ _ | refine eC.wc ?_ (by decide) _ _ _ | refine eC.sr ?_ (by decide) _ _)
    have n2 : eM [16] m1 (wm m1 16 (40 * w + g) (p_w (m1 16 (40 * w + g) + 1))) := (by repeat first | exact eM.rf _ _ | refine eM.wm ?_ (by decide) _ _)
    refine ⟨_, _, ?_, ?_, (h1.ofE (Nat.le_refl _) (h1.1.f8 (40 * w + g) (p_w (m1 16 (40 * w + g) + 1))) n1 n2 rfl rfl).more hb1, (y1.up (by decide)).tr (n1.up (by decide)), (y2.up (by decide)).tr (n2.up (by decide))⟩
    · unfold GB_Step_passOn_90 GB_Step_passOn_91 GB_Step_passOn_109
      rw [if_pos rfl, gd1 hj, gd1 hj, r8, bi1, if_pos rfl]
    · rw [a186w i120 (by rw [r6]; omega), r6]
  have rest : ∀ (v : Int), ∃ c' m', some (wc c 8 (40 * w + g + 1) 0 0) = some c' ∧ GB_Mo_actTaker_186 ((40 * w + g : Nat) : Int) 0 v m = GO_Mo_actTaker_224 3000 ((40 * w + g : Nat) : Int) (m 6 (40 * w + g) - 2) m' ∧ ZZ (b + 3) c' m' w F L ∧ eC fC c c' ∧ eM fM m m' := by
    intro v
    have n1 : eC [8] c (wc c 8 (40 * w + g + 1) 0 0) := (by repeat first | exact eC.rf _ _ | refine eC.wc ?_ (by decide) _ _ _ | refine eC.sr ?_ (by decide) _ _)
    have n2 : eM [16] m (wm m 16 (40 * w + g) 0) := (by repeat first | exact eM.rf _ _ | refine eM.wm ?_ (by decide) _ _)
    exact ⟨_, _, rfl, a186z i120 (by omega) v, (h.ofE (Nat.le_refl _) (hR.f8 (40 * w + g) 0) n1 n2 rfl rfl).more (by omega), n1.up (by decide), n2.up (by decide)⟩
  have goes : ∀ (b1 : Nat) (c1 : h_C) (m1 : h_M), ZZ b1 c1 m1 w F L → b1 ≤ b + 3 → eC gC c c1 → eM gM m m1 → m 5 (40 * w + g) ≠ 8 → ∃ c' m', GB_Step_passOn_86 (40 * w + g + 1) c1 = some c' ∧ GB_Mo_actTaker_186 ((40 * w + g : Nat) : Int) 1 1 m1 = GO_Mo_actTaker_224 3000 ((40 * w + g : Nat) : Int) (m 6 (40 * w + g) - 2) m' ∧ ZZ (b + 3) c' m' w F L ∧ eC fC c c' ∧ eM fM m m' := by
    intro b1 c1 m1 h1 hb1 y1 y2 k8'
    have r6 : m1 6 = m 6 := y2 6 (by decide)
    have r0 : (wc c1 8 (40 * w + g + 1) 0 0) 0 (40 * w + g + 1) 0 = m 5 (40 * w + g) := by rw [wc_at, if_neg (by omega), y1 0 (by decide)]; exact eK
    have n1 : eC [8] c1 (wc c1 8 (40 * w + g + 1) 0 0) := (by repeat first | exact eC.rf _ _ | refine eC.wc ?_ (by decide) _ _ _ | refine eC.sr ?_ (by decide) _ _)
    have n2 : eM [16] m1 (wm m1 16 (40 * w + g) 0) := (by repeat first | exact eM.rf _ _ | refine eM.wm ?_ (by decide) _ _)
    refine ⟨_, _, ?_, ?_, (h1.ofE (Nat.le_refl _) (h1.1.f8 (40 * w + g) 0) n1 n2 rfl rfl).more hb1, (y1.up (by decide)).tr (n1.up (by decide)), (y2.up (by decide)).tr (n2.up (by decide))⟩
    · unfold GB_Step_passOn_86 GB_Step_passOn_91 GB_Step_passOn_109
      rw [if_neg (by omega), gd1 hj, bi1, if_neg (by omega), gd1 hj, r0, if_pos k8']
    · rw [a186g i120 (by rw [r6]; omega), r6]
  have goes8 : ∀ (b1 : Nat) (c1 : h_C) (m1 : h_M), ZZ b1 c1 m1 w F L → b1 ≤ b + 3 → eC gC c c1 → eM gM m m1 → m 5 (40 * w + g) = 8 → 0 < m 13 (40 * w + g) → ∃ c' m', GB_Step_passOn_86 (40 * w + g + 1) c1 = some c' ∧ GB_Mo_actTaker_184 ((40 * w + g : Nat) : Int) 1 1 1 (m1 13 (40 * w + g)) ((40 * w + g : Nat) : Int) m1 = GO_Mo_actTaker_224 3000 ((40 * w + g : Nat) : Int) (m 6 (40 * w + g) - 2) m' ∧ ZZ (b + 3) c' m' w F L ∧ eC fC c c' ∧ eM fM m m' := by
    intro b1 c1 m1 h1 hb1 y1 y2 k8' pos
    have r6 : m1 6 = m 6 := y2 6 (by decide)
    have r13 : m1 13 = m 13 := y2 13 (by decide)
    have r14 := (h1.1.G.1 (40 * w + g)).1.2.2.2.2.2.2.2.2.1
    have b13 := (hR.G.1 (40 * w + g)).2.2.2.1
    have r0 : (wc c1 8 (40 * w + g + 1) 0 0) 0 (40 * w + g + 1) 0 = m 5 (40 * w + g) := by rw [wc_at, if_neg (by omega), y1 0 (by decide)]; exact eK
    have r14' : (wc c1 8 (40 * w + g + 1) 0 0) 14 (40 * w + g + 1) 0 = m 13 (40 * w + g) := by rw [wc_at, if_neg (by omega), r14, r13]
    have n1 : eC [8, 14] c1 (wc (wc c1 8 (40 * w + g + 1) 0 0) 14 (40 * w + g + 1) 0 (m 13 (40 * w + g) - 1)) := (by repeat first | exact eC.rf _ _ | refine eC.wc ?_ (by decide) _ _ _ | refine eC.sr ?_ (by decide) _ _)
    have n2 : eM [16, 13] m1 (wm (wm m1 16 (40 * w + g) 0) 13 (40 * w + g) (m 13 (40 * w + g) - 1)) := (by repeat first | exact eM.rf _ _ | refine eM.wm ?_ (by decide) _ _)
    have sw : wm (wm m1 16 (40 * w + g) 0) 13 (40 * w + g) (m 13 (40 * w + g) - 1) = wm (wm m1 13 (40 * w + g) (m 13 (40 * w + g) - 1)) 16 (40 * w + g) 0 := by
      funext f x
      simp only [wm_at]
      by_cases z : f = 13
      · subst z; simp
      · simp [z]
    refine ⟨_, _, ?_, ?_, (h1.ofE (Nat.le_refl _) ((h1.1.f8 (40 * w + g) 0).f14 (40 * w + g) (m 13 (40 * w + g) - 1) (by omega)) n1 n2 rfl rfl).more hb1, (y1.up (by decide)).tr (n1.up (by decide)), (y2.up (by decide)).tr (n2.up (by decide))⟩
    · unfold GB_Step_passOn_86 GB_Step_passOn_91 GB_Step_passOn_109
      rw [if_neg (by omega), gd1 hj, bi1, if_neg (by omega), gd1 hj, r0, if_neg (by simp [k8']), r14', p_w1 (by omega) (by omega), bi1]
    · have r62 : (wm m1 13 (40 * w + g) (m 13 (40 * w + g) - 1)) 6 = m 6 := by funext x; rw [wm_at, if_neg (by omega), r6]
      unfold GB_Mo_actTaker_184
      rw [gd1 (by omega), Int.toNat_natCast, r13, p_w1 (by omega) (by omega), bi1, a186g i120 (by rw [r62]; omega), r62, sw]
  -- the reference writes what it read
  have same : ∀ (m1 : h_M) (r : Int), eM gM m m1 → GB_Mo_actTaker_183 ((40 * w + g : Nat) : Int) 1 r (m1 13 (40 * w + g)) ((40 * w + g : Nat) : Int) m1 = GB_Mo_actTaker_186 ((40 * w + g : Nat) : Int) 1 r m1 := by
    intro m1 r y2
    have b13 := (hR.G.1 (40 * w + g)).2.2.2.1
    have r13 : m1 13 = m 13 := y2 13 (by decide)
    unfold GB_Mo_actTaker_183 GB_Mo_actTaker_184
    rw [gd1 (by omega), Int.toNat_natCast, bi1, p_w1 (by rw [r13]; omega) (by rw [r13]; omega), Int.sub_zero, wm_self]
  rcases s_inSlot hR hw hg k8 with ⟨a1, a2, a3⟩ | ⟨pl, q, b1, b2, b3, b4, b5, b6, b7, b8, b9, b10⟩
  · obtain ⟨c', m', z1, z2, z3⟩ := rest 0
    refine ⟨c', m', ?_, ?_, z3⟩
    · unfold G_Step_passOn
      rw [e5, Int.toNat_natCast, gd1 (by omega), hin, a3, q_some, if_pos rfl, gd1 hj, bi1]; exact z1
    · have : v6 = 0 := by rw [h6, h5, a2, if_neg (by omega)]
      unfold aT
      rw [this, if_pos rfl]; exact z2
  have hq1 : 1 ≤ q := b9.1.1.1
  have hvp : vP (31 * w + pl) := ⟨by omega, by omega⟩
  have hmv := hMV pl q b1 b2 hq1 b5
  rw [b4] at h5
  subst h5
  rw [Int.toNat_natCast] at h6
  have hC : ∀ (v3 : Int) X, (if m 36 q = 0 then (if v3 = 0 then GB_Step_passOn_44 (g : Int) (40 * w + g + 1) (31 * w + pl) c else if m 5 (40 * w + g) = 8 ∧ m 13 (40 * w + g) = 0 then GB_Step_passOn_44 (g : Int) (40 * w + g + 1) (31 * w + pl) c else GB_Step_passOn_45 (g : Int) (40 * w + g + 1) (31 * w + pl) 1 c) else some (wc c 8 (40 * w + g + 1) 0 0)) = X → G_Step_passOn (g : Int) (40 * w + g + 1) v3 c = X := by
    intro v3 X hX
    have r14 := (hR.G.1 (40 * w + g)).1.2.2.2.2.2.2.2.2.1
    unfold G_Step_passOn G_Gear_isHeld
    rw [e5, Int.toNat_natCast, gd1 (by omega), hin, b10, q_some, if_neg (by omega), gd1 hvp, hmv.1, ← hX]
    by_cases z1 : m 36 q = 0
    · rw [if_pos z1, if_pos z1]
      by_cases z2 : v3 = 0
      · rw [if_pos z2, if_pos z2]
      · rw [if_neg z2, if_neg z2, gd1 hj, gd1 hj, eK, r14]
        by_cases z3 : m 5 (40 * w + g) = 8
        · by_cases z4 : m 13 (40 * w + g) = 0
          · simp [z3, z4, q_some]
          · simp [z3, z4, q_some]
        · simp [z3, q_some]
    · rw [if_neg z1, if_neg z1, gd1 hj, bi1]
  by_cases mv : m 36 q = 0
  case neg =>
    obtain ⟨c', m', z1, z2, z3⟩ := rest 0
    refine ⟨c', m', hC _ _ (by rw [if_neg mv]; exact z1), ?_, z3⟩
    have : v6 = 0 := by rw [h6, if_neg (fun z => mv z.2)]
    unfold aT
    rw [this, if_pos rfl]; exact z2
  have hv6 : v6 = 1 := by rw [h6, if_pos ⟨by omega, mv⟩]
  subst hv6
  clear h6
  obtain ⟨cw, mw, w1, w2, w3⟩ := wait b c m h (by omega) (eC.rf _ _) (eM.rf _ _)
  have c44 : GB_Step_passOn_44 (g : Int) (40 * w + g + 1) (31 * w + pl) c = some cw := by
    unfold GB_Step_passOn_44 GB_Step_passOn_45
    rw [if_pos rfl]; exact w1
  by_cases z7 : v7 = 0
  case neg =>
    refine ⟨cw, mw, hC _ _ (by rw [if_pos mv, if_neg z7, if_pos rfl]; exact c44), ?_, w3⟩
    unfold aT
    rw [if_neg (by omega), if_pos z7]; exact w2
  subst z7
  have hM0 : ∀ X, (if m 5 (40 * w + g) ≠ 7 then if m 5 (40 * w + g) = 8 ∧ m 13 (40 * w + g) ≤ 0 then GB_Mo_actTaker_186 ((40 * w + g : Nat) : Int) 1 0 m else GB_Mo_actTaker_152 (g : Int) ((40 * w + g : Nat) : Int) (m 5 (40 * w + g)) (q : Int) 1 m else q_bd (G_Mo_givesOut (g : Int) (q : Int) m) fun r12 m13 => GB_Mo_actTaker_186 ((40 * w + g : Nat) : Int) 1 r12 m13) = X → aT (g : Int) ((40 * w + g : Nat) : Int) (m 5 (40 * w + g)) (q : Int) 1 0 m = X := by
    intro X hX
    unfold aT
    rw [if_neg (by omega), if_neg (by omega), ← hX, gd1 (by omega), Int.toNat_natCast]
    by_cases z3 : m 5 (40 * w + g) = 8
    · by_cases z4 : m 13 (40 * w + g) ≤ 0
      · simp [z3, z4]
      · simp [z3, z4]
    · simp [z3]
  have b13 := (hR.G.1 (40 * w + g)).2.2.2.1
  by_cases held : m 5 (40 * w + g) = 8 ∧ m 13 (40 * w + g) = 0
  · refine ⟨cw, mw, hC _ _ (by rw [if_pos mv, if_pos rfl, if_neg (by omega), if_pos held]; exact c44), hM0 _ ?_, w3⟩
    rw [if_pos (by omega), if_pos ⟨held.1, by omega⟩]; exact w2
  have hC1 : ∀ X, GB_Step_passOn_45 (g : Int) (40 * w + g + 1) (31 * w + pl) 1 c = X → G_Step_passOn (g : Int) (40 * w + g + 1) (if (0 : Int) = 0 then 1 else 0) c = X := fun X hX => hC _ X (by rw [if_pos mv, if_pos rfl, if_neg (by omega), if_neg held]; exact hX)
  by_cases k7 : m 5 (40 * w + g) = 7
  · obtain ⟨r, c1, m1, x1, x2, x3, x4, x5, x6⟩ := h.gout hb hg ha b1 b2 hq1 b5
    rcases x3 with rfl | rfl
    · obtain ⟨c', m', z1, z2, z3⟩ := wait _ _ _ x4 (Nat.le_refl _) x5 x6
      refine ⟨c', m', hC1 _ ?_, hM0 _ ?_, z3⟩
      · unfold GB_Step_passOn_45
        rw [if_neg (by omega), gd1 hj, eK, if_neg (by omega), x1, q_some2, if_pos rfl]; exact z1
      · rw [if_neg (by omega), x2, q_some2]; exact z2
    · obtain ⟨c', m', z1, z2, z3⟩ := goes _ _ _ x4 (Nat.le_refl _) x5 x6 (by omega)
      refine ⟨c', m', hC1 _ ?_, hM0 _ ?_, z3⟩
      · unfold GB_Step_passOn_45
        rw [if_neg (by omega), gd1 hj, eK, if_neg (by omega), x1, q_some2, if_neg (by omega)]; exact z1
      · rw [if_neg (by omega), x2, q_some2]; exact z2
  obtain ⟨r, c1, m1, x1, x2, x3, x4, x5, x6⟩ := h.gives hb hCH hg ha b1 b2 hq1 b5
  have hM1 : ∀ X, GB_Mo_actTaker_152 (g : Int) ((40 * w + g : Nat) : Int) (m 5 (40 * w + g)) (q : Int) 1 m = X → aT (g : Int) ((40 * w + g : Nat) : Int) (m 5 (40 * w + g)) (q : Int) 1 0 m = X := fun X hX => hM0 X (by rw [if_pos k7, if_neg (by omega)]; exact hX)
  rcases x3 with rfl | rfl
  · obtain ⟨c', m', z1, z2, z3⟩ := wait _ _ _ x4 (Nat.le_refl _) x5 x6
    refine ⟨c', m', hC1 _ ?_, hM1 _ ?_, z3⟩
    · unfold GB_Step_passOn_45
      rw [if_neg (by omega), gd1 hj, eK, if_pos k7, x1, q_some2, if_pos rfl]; exact z1
    · unfold GB_Mo_actTaker_152
      rw [x2, q_some2, gd1 (by omega), Int.toNat_natCast, same m1 0 x6, if_pos rfl, ite_self]; exact z2
  · by_cases k8' : m 5 (40 * w + g) = 8
    · obtain ⟨c', m', z1, z2, z3⟩ := goes8 _ _ _ x4 (Nat.le_refl _) x5 x6 k8' (by omega)
      refine ⟨c', m', hC1 _ ?_, hM1 _ ?_, z3⟩
      · unfold GB_Step_passOn_45
        rw [if_neg (by omega), gd1 hj, eK, if_pos k7, x1, q_some2, if_neg (by omega)]; exact z1
      · unfold GB_Mo_actTaker_152
        rw [x2, q_some2, gd1 (by omega), Int.toNat_natCast, if_neg (by simp [k8']), if_neg (by omega)]; exact z2
    · obtain ⟨c', m', z1, z2, z3⟩ := goes _ _ _ x4 (Nat.le_refl _) x5 x6 k8'
      refine ⟨c', m', hC1 _ ?_, hM1 _ ?_, z3⟩
      · unfold GB_Step_passOn_45
        rw [if_neg (by omega), gd1 hj, eK, if_pos k7, x1, q_some2, if_neg (by omega)]; exact z1
      · unfold GB_Mo_actTaker_152
        rw [x2, q_some2, gd1 (by omega), Int.toNat_natCast, if_pos k8', same m1 1 x6]; exact z2
