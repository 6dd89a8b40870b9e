/-! ===== copy: the class ===== -/
/-- gear j of the class is built as i is -/
def GC (c c' : h_C) (j i : Nat) : Prop := (c' 0 j 0 = c 0 i 0 ∧ c' 1 j 0 = c 1 i 0 ∧ c' 2 j 0 = c 2 i 0 ∧ c' 3 j 0 = c 3 i 0 ∧ c' 7 j 0 = c 7 i 0 ∧ c' 6 j 0 = 0 ∧ c' 8 j 0 = 0 ∧ c' 9 j 0 = 0 ∧ c' 10 j 0 = 0 ∧ c' 11 j 0 = 0 ∧ c' 12 j 0 = 0 ∧ c' 13 j 0 = 0 ∧ c' 14 j 0 = 0 ∧ c' 15 j 0 = -1 ∧ c' 16 j 0 = 0) ∧ (∀ k, k < 3 → c' 2010 j k = c 2010 i k) ∧ (∀ k, k < 3 → c' 2011 j k = c 2011 i k)
def cgC : List Nat := [0, 1, 2, 3, 6, 7, 8, 9, 10, 11, 12, 13, 14, 15, 16, 2010, 2011]
theorem s_buildAs {j i : Nat} (hj : vG j) (hi : vG i) (hne : i ≠ j) (c : h_C) (h0 : 0 ≤ c 0 i 0) (h10 : c 0 i 0 ≤ 10) (h7 : c 7 i 0 = 0 ∨ c 7 i 0 = 1) : ∃ c', G_Gear_buildAs j i c = some c' ∧ eC cgC c c' ∧ (∀ f x, x ≠ j → c' f x = c f x) ∧ GC c c' j i := by
  have fr := s_begin hj h0 h10 c
  generalize hb : bgC c j (c 0 i 0) = cb at fr
  have bn : eC [0, 2, 2011, 6, 7, 8, 9, 10, 11, 12, 13, 14, 15, 16] c cb := by rw [← hb]; exact bgC_n c j _
  have bx : ∀ f x, x ≠ j → cb f x = c f x := fun f x hx => by
    rw [← hb]; unfold bgC; funext k; simp only [wc_at, sr_at]; simp [hx]
  generalize hd : wc (wc (wc cb 1 j 0 (c 1 i 0)) 2 j 0 (c 2 i 0)) 3 j 0 (c 3 i 0) = cd
  have dn : eC [1, 2, 3] cb cd := by rw [← hd]; exact (by repeat first | exact eC.rf _ _ | refine eC.wc ?_ (by decide) _ _ _ | refine eC.sr ?_ (by decide) _ _)
  have dx : ∀ f x, x ≠ j → cd f x = c f x := fun f x hx => by
    rw [← bx f x hx, ← hd]; funext k; simp [wc_at, hx]
  generalize he : sr (sr cd 2010 j (cp (c 2010 i) 0 (cd 2010 j) 0 3)) 2011 j (cp (c 2011 i) 0 (cd 2011 j) 0 3) = ce
  have en : eC [2010, 2011] cd ce := by rw [← he]; exact (by repeat first | exact eC.rf _ _ | refine eC.wc ?_ (by decide) _ _ _ | refine eC.sr ?_ (by decide) _ _)
  have ex : ∀ f x, x ≠ j → ce f x = c f x := fun f x hx => by
    rw [← dx f x hx, ← he]; funext k; simp [sr_at, hx]
  refine ⟨wc ce 7 j 0 (c 7 i 0), ?_, (((bn.up (by decide)).tr (dn.up (by decide))).tr (en.up (by decide))).tr (eC.up (l := [7]) (by repeat first | exact eC.rf _ _ | refine eC.wc ?_ (by decide) _ _ _ | refine eC.sr ?_ (by decide) _ _) (by decide)), fun f x hx => by rw [← ex f x hx]; funext k; simp [wc_at, hx], ⟨?_, fun k hk => ?_, fun k hk => ?_⟩⟩
  · unfold G_Gear_buildAs
    rw [gd1 hi, gd1 hj, fr, q_some]
    have r1 : cb 1 i 0 = c 1 i 0 := by rw [bx 1 i hne]
    have r2 : (wc cb 1 j 0 (c 1 i 0)) 2 i 0 = c 2 i 0 := by rw [wc_ne (by decide), bx 2 i hne]
    have r3 : (wc (wc cb 1 j 0 (c 1 i 0)) 2 j 0 (c 2 i 0)) 3 i 0 = c 3 i 0 := by rw [wc_ne (by decide), wc_ne (by decide), bx 3 i hne]
    have r4 : cd 2010 i = c 2010 i := dx 2010 i hne
    have r5 : (sr cd 2010 j (cp (c 2010 i) 0 (cd 2010 j) 0 3)) 2011 i = c 2011 i := by
      funext k
      rw [sr_ne (by decide), dx 2011 i hne]
    have r6 : (sr cd 2010 j (cp (c 2010 i) 0 (cd 2010 j) 0 3)) 2011 j = cd 2011 j := by
      funext k
      rw [sr_ne (by decide)]
    rw [r1, bi1, r2, bi1, r3, bi1, hd, gd1 (by decide), bi1, r4, show (0 : Int).toNat = 0 from rfl, show (3 : Int).toNat = 3 from rfl, r5, r6, bi1, he, ex 7 i hne, gd1 h7, bi1]
  · have hv : ∀ f, f ≠ 7 → f ≠ 2010 → f ≠ 2011 → (wc ce 7 j 0 (c 7 i 0)) f j 0 = cd f j 0 := fun f h1 h2 h3 => by rw [wc_ne h1, en f (by simp [h2, h3])]
    have hv2 : ∀ f, f ≠ 1 → f ≠ 2 → f ≠ 3 → cd f j 0 = cb f j 0 := fun f h1 h2 h3 => by rw [dn f (by simp [h1, h2, h3])]
    rw [hv 0 (by decide) (by decide) (by decide), hv 1 (by decide) (by decide) (by decide), hv 2 (by decide) (by decide) (by decide), hv 3 (by decide) (by decide) (by decide), hv 6 (by decide) (by decide) (by decide), hv 8 (by decide) (by decide) (by decide), hv 9 (by decide) (by decide) (by decide), hv 10 (by decide) (by decide) (by decide), hv 11 (by decide) (by decide) (by decide), hv 12 (by decide) (by decide) (by decide), hv 13 (by decide) (by decide) (by decide), hv 14 (by decide) (by decide) (by decide), hv 15 (by decide) (by decide) (by decide), hv 16 (by decide) (by decide) (by decide)]
    rw [hv2 0 (by decide) (by decide) (by decide), hv2 6 (by decide) (by decide) (by decide), hv2 8 (by decide) (by decide) (by decide), hv2 9 (by decide) (by decide) (by decide), hv2 10 (by decide) (by decide) (by decide), hv2 11 (by decide) (by decide) (by decide), hv2 12 (by decide) (by decide) (by decide), hv2 13 (by decide) (by decide) (by decide), hv2 14 (by decide) (by decide) (by decide), hv2 15 (by decide) (by decide) (by decide), hv2 16 (by decide) (by decide) (by decide)]
    refine ⟨?_, by rw [← hd]; simp [wc_at], by rw [← hd]; simp [wc_at], by rw [← hd]; simp [wc_at], by simp [wc_at], ?_, ?_, ?_, ?_, ?_, ?_, ?_, ?_, ?_, ?_⟩
    all_goals (rw [← hb]; unfold bgC; simp [wc_at, sr_at])
  · rw [wc_ne (by decide), ← he, sr_ne (by decide), sr_at, if_pos ⟨rfl, rfl⟩, cp_at, if_pos (by omega), Nat.sub_zero, Nat.zero_add]
  · rw [wc_ne (by decide), ← he, sr_at, if_pos ⟨rfl, rfl⟩, cp_at, if_pos (by omega), Nat.sub_zero, Nat.zero_add]
theorem s_buildGears {w u : Nat} (hw : w < 3) (hu : u < 3) {n : Nat} (hn : n ≤ 40) (hne : u ≠ w ∨ n = 0) : ∀ (d g fu : Nat) (c : h_C), g + d = n → d < fu → c 202 w 0 = (n : Int) → (∀ i, 0 ≤ c 0 (i + 1) 0 ∧ c 0 (i + 1) 0 ≤ 10 ∧ (c 7 (i + 1) 0 = 0 ∨ c 7 (i + 1) 0 = 1)) → ∃ c', GO_Works_buildLike_10 fu w u (g : Int) c = (q_bv (G_Works_ruleBy w u c') fun c7 => p_bi (wc c7 206 w 0 (c7 206 u 0)) fun c8 => GO_Works_buildLike_63 3000 w u 0 c8) ∧ eC cgC c c' ∧ (∀ f x, (x ≤ 40 * w + g ∨ 40 * w + n < x) → c' f x = c f x) ∧ (∀ g', g ≤ g' → g' < n → GC c c' (40 * w + g' + 1) (40 * u + g' + 1)) := by
  intro d
  induction d with
  | zero =>
    intro g fu c hd hf e2 hk
    obtain ⟨fu, rfl⟩ : ∃ g, fu = g + 1 := ⟨fu - 1, by omega⟩
    refine ⟨c, ?_, eC.rf _ _, fun _ _ _ => rfl, fun g' h1 h2 => by omega⟩
    show GL_Works_buildLike_10 _ _ _ _ c = _
    unfold GL_Works_buildLike_10
    rw [gd1 hw, e2, if_pos (by omega), gd1 hu]
  | succ d ih =>
    intro g fu c hd hf e2 hk
    obtain ⟨fu, rfl⟩ : ∃ g, fu = g + 1 := ⟨fu - 1, by omega⟩
    have huw : u ≠ w := by omega
    obtain ⟨z0, z1, z2⟩ := hk (40 * u + g)
    obtain ⟨c1, a1, a2, a3, a4⟩ := s_buildAs (j := 40 * w + g + 1) (i := 40 * u + g + 1) ⟨by omega, by omega⟩ ⟨by omega, by omega⟩ (by omega) c z0 z1 z2
    have k1 : ∀ i, 0 ≤ c1 0 (i + 1) 0 ∧ c1 0 (i + 1) 0 ≤ 10 ∧ (c1 7 (i + 1) 0 = 0 ∨ c1 7 (i + 1) 0 = 1) := fun i => by
      by_cases e : i + 1 = 40 * w + g + 1
      · rw [e, a4.1.1, a4.1.2.2.2.2.1]; exact hk _
      · rw [a3 0 _ e, a3 7 _ e]; exact hk i
    obtain ⟨c', y1, y2, y3, y4⟩ := ih (g + 1) fu c1 (by omega) (by omega) (by rw [a2 202 (by decide)]; exact e2) k1
    refine ⟨c', ?_, a2.tr y2, fun f x hx => ?_, fun g' h1 h2 => ?_⟩
    · rw [← y1]
      show GL_Works_buildLike_10 _ _ _ _ c = _
      unfold GL_Works_buildLike_10
      rw [gd1 hw, e2, if_neg (by omega), gd1 (by omega), gd1 hu, Int.toNat_natCast, a1, q_some, p_w1 (by omega) (by omega)]
      rfl
    · rw [y3 f x (by omega), a3 f x (by omega)]
    · by_cases e : g' = g
      · subst e
        unfold GC
        simp only [y3 _ (40 * w + g' + 1) (show 40 * w + g' + 1 ≤ 40 * w + (g' + 1) ∨ 40 * w + n < 40 * w + g' + 1 by omega)]
        exact a4
      · have := y4 g' (by omega) h2
        unfold GC at this ⊢
        rw [a3 0 (40 * u + g' + 1) (by omega), a3 1 (40 * u + g' + 1) (by omega), a3 2 (40 * u + g' + 1) (by omega), a3 3 (40 * u + g' + 1) (by omega), a3 7 (40 * u + g' + 1) (by omega), a3 2010 (40 * u + g' + 1) (by omega), a3 2011 (40 * u + g' + 1) (by omega)] at this
        exact this
def ruC : List Nat := [500, 2020, 2021, 2022, 2023, 2024, 2025, 2026, 508, 2003]
theorem s_ruleBy {w u : Nat} (hw : w < 3) (hu : u < 4) (c : h_C) : ∃ c', G_Works_ruleBy w u c = some c' ∧ eC ruC c c' ∧ (∀ f x, x ≠ w → c' f x = c f x) ∧ c' 500 w 0 = c 500 u 0 ∧ c' 508 w 0 = c 508 u 0 ∧ (∀ k, k < 12 → c' 2020 w k = c 2020 u k ∧ c' 2021 w k = c 2021 u k ∧ c' 2003 w k = 0) ∧ (∀ k, k < 48 → c' 2022 w k = c 2022 u k ∧ c' 2023 w k = c 2023 u k ∧ c' 2024 w k = c 2024 u k ∧ c' 2025 w k = c 2025 u k) ∧ (∀ k, k < 200 → c' 2026 w k = c 2026 u k) := by
  have hwR : vR w := by show w < 4; omega
  have huR : vR u := hu
  generalize h1 : wc c 500 w 0 (c 500 u 0) = c1
  generalize h2 : sr c1 2020 w (cp (c1 2020 u) 0 (c1 2020 w) 0 12) = c2
  generalize h3 : sr c2 2021 w (cp (c2 2021 u) 0 (c2 2021 w) 0 12) = c3
  generalize h4 : sr c3 2022 w (cp (c3 2022 u) 0 (c3 2022 w) 0 48) = c4
  generalize h5 : sr c4 2023 w (cp (c4 2023 u) 0 (c4 2023 w) 0 48) = c5
  generalize h6 : sr c5 2024 w (cp (c5 2024 u) 0 (c5 2024 w) 0 48) = c6
  generalize h7 : sr c6 2025 w (cp (c6 2025 u) 0 (c6 2025 w) 0 48) = c7
  generalize h8 : sr c7 2026 w (cp (c7 2026 u) 0 (c7 2026 w) 0 200) = c8
  generalize h9 : wc c8 508 w 0 (c8 508 u 0) = c9
  have n1 : eC [500] c c1 := by rw [← h1]; exact (by repeat first | exact eC.rf _ _ | refine eC.wc ?_ (by decide) _ _ _ | refine eC.sr ?_ (by decide) _ _)
  have n2 : eC [2020] c1 c2 := by rw [← h2]; exact (by repeat first | exact eC.rf _ _ | refine eC.wc ?_ (by decide) _ _ _ | refine eC.sr ?_ (by decide) _ _)
  have n3 : eC [2021] c2 c3 := by rw [← h3]; exact (by repeat first | exact eC.rf _ _ | refine eC.wc ?_ (by decide) _ _ _ | refine eC.sr ?_ (by decide) _ _)
  have n4 : eC [2022] c3 c4 := by rw [← h4]; exact (by repeat first | exact eC.rf _ _ | refine eC.wc ?_ (by decide) _ _ _ | refine eC.sr ?_ (by decide) _ _)
  have n5 : eC [2023] c4 c5 := by rw [← h5]; exact (by repeat first | exact eC.rf _ _ | refine eC.wc ?_ (by decide) _ _ _ | refine eC.sr ?_ (by decide) _ _)
  have n6 : eC [2024] c5 c6 := by rw [← h6]; exact (by repeat first | exact eC.rf _ _ | refine eC.wc ?_ (by decide) _ _ _ | refine eC.sr ?_ (by decide) _ _)
  have n7 : eC [2025] c6 c7 := by rw [← h7]; exact (by repeat first | exact eC.rf _ _ | refine eC.wc ?_ (by decide) _ _ _ | refine eC.sr ?_ (by decide) _ _)
  have n8 : eC [2026] c7 c8 := by rw [← h8]; exact (by repeat first | exact eC.rf _ _ | refine eC.wc ?_ (by decide) _ _ _ | refine eC.sr ?_ (by decide) _ _)
  have n9 : eC [508] c8 c9 := by rw [← h9]; exact (by repeat first | exact eC.rf _ _ | refine eC.wc ?_ (by decide) _ _ _ | refine eC.sr ?_ (by decide) _ _)
  have n0 : eC [2003] c9 (sr c9 2003 w (fl (c9 2003 w) 12 0)) := (by repeat first | exact eC.rf _ _ | refine eC.wc ?_ (by decide) _ _ _ | refine eC.sr ?_ (by decide) _ _)
  have xw : ∀ f x, x ≠ w → (sr c9 2003 w (fl (c9 2003 w) 12 0)) f x = c f x := fun f x hx => by
    funext k
    rw [sr_at, if_neg (fun z => hx z.2), ← h9, wc_at, if_neg (fun z => hx z.2.1), ← h8, sr_at, if_neg (fun z => hx z.2), ← h7, sr_at, if_neg (fun z => hx z.2), ← h6, sr_at, if_neg (fun z => hx z.2), ← h5, sr_at, if_neg (fun z => hx z.2), ← h4, sr_at, if_neg (fun z => hx z.2), ← h3, sr_at, if_neg (fun z => hx z.2), ← h2, sr_at, if_neg (fun z => hx z.2), ← h1, wc_at, if_neg (fun z => hx z.2.1)]
  refine ⟨sr c9 2003 w (fl (c9 2003 w) 12 0), ?_, ?_, xw, ?_, ?_, fun k hk => ⟨?_, ?_, ?_⟩, fun k hk => ⟨?_, ?_, ?_, ?_⟩, fun k hk => ?_⟩
  · unfold G_Works_ruleBy G_Rules_becomeAs
    rw [gd1 hw, gd1 huR, gd1 hwR]
    simp (discharger := decide) only [gd1, bi1, show (0 : Int).toNat = 0 from rfl, show (12 : Int).toNat = 12 from rfl, show (48 : Int).toNat = 48 from rfl, show (200 : Int).toNat = 200 from rfl, h1, h2, h3, h4, h5, h6, h7, h8, h9, q_some]
  · exact (((((((((n1.up (by decide)).tr (n2.up (by decide))).tr (n3.up (by decide))).tr (n4.up (by decide))).tr (n5.up (by decide))).tr (n6.up (by decide))).tr (n7.up (by decide))).tr (n8.up (by decide))).tr (n9.up (by decide))).tr (n0.up (by decide))
  · rw [n0 500 (by decide), n9 500 (by decide), n8 500 (by decide), n7 500 (by decide), n6 500 (by decide), n5 500 (by decide), n4 500 (by decide), n3 500 (by decide), n2 500 (by decide), ← h1]
    simp [wc_at]
  · rw [n0 508 (by decide), ← h9, wc_at, if_pos ⟨rfl, rfl, rfl⟩, n8 508 (by decide), n7 508 (by decide), n6 508 (by decide), n5 508 (by decide), n4 508 (by decide), n3 508 (by decide), n2 508 (by decide), n1 508 (by decide)]
  · rw [n0 2020 (by decide), n9 2020 (by decide), n8 2020 (by decide), n7 2020 (by decide), n6 2020 (by decide), n5 2020 (by decide), n4 2020 (by decide), n3 2020 (by decide), ← h2, sr_at, if_pos ⟨rfl, rfl⟩, cp_at, if_pos (by omega), Nat.sub_zero, Nat.zero_add, n1 2020 (by decide)]
  · rw [n0 2021 (by decide), n9 2021 (by decide), n8 2021 (by decide), n7 2021 (by decide), n6 2021 (by decide), n5 2021 (by decide), n4 2021 (by decide), ← h3, sr_at, if_pos ⟨rfl, rfl⟩, cp_at, if_pos (by omega), Nat.sub_zero, Nat.zero_add, n2 2021 (by decide), n1 2021 (by decide)]
  · rw [sr_at, if_pos ⟨rfl, rfl⟩, fl_at, if_pos hk]
  · rw [n0 2022 (by decide), n9 2022 (by decide), n8 2022 (by decide), n7 2022 (by decide), n6 2022 (by decide), n5 2022 (by decide), ← h4, sr_at, if_pos ⟨rfl, rfl⟩, cp_at, if_pos (by omega), Nat.sub_zero, Nat.zero_add, n3 2022 (by decide), n2 2022 (by decide), n1 2022 (by decide)]
  · rw [n0 2023 (by decide), n9 2023 (by decide), n8 2023 (by decide), n7 2023 (by decide), n6 2023 (by decide), ← h5, sr_at, if_pos ⟨rfl, rfl⟩, cp_at, if_pos (by omega), Nat.sub_zero, Nat.zero_add, n4 2023 (by decide), n3 2023 (by decide), n2 2023 (by decide), n1 2023 (by decide)]
  · rw [n0 2024 (by decide), n9 2024 (by decide), n8 2024 (by decide), n7 2024 (by decide), ← h6, sr_at, if_pos ⟨rfl, rfl⟩, cp_at, if_pos (by omega), Nat.sub_zero, Nat.zero_add, n5 2024 (by decide), n4 2024 (by decide), n3 2024 (by decide), n2 2024 (by decide), n1 2024 (by decide)]
  · rw [n0 2025 (by decide), n9 2025 (by decide), n8 2025 (by decide), ← h7, sr_at, if_pos ⟨rfl, rfl⟩, cp_at, if_pos (by omega), Nat.sub_zero, Nat.zero_add, n6 2025 (by decide), n5 2025 (by decide), n4 2025 (by decide), n3 2025 (by decide), n2 2025 (by decide), n1 2025 (by decide)]
  · rw [n0 2026 (by decide), n9 2026 (by decide), ← h8, sr_at, if_pos ⟨rfl, rfl⟩, cp_at, if_pos (by omega), Nat.sub_zero, Nat.zero_add, n7 2026 (by decide), n6 2026 (by decide), n5 2026 (by decide), n4 2026 (by decide), n3 2026 (by decide), n2 2026 (by decide), n1 2026 (by decide)]
theorem s_buildPlans {w u : Nat} (hw : w < 3) (hu : u < 3) {n : Nat} (hn : n ≤ 16) : ∀ (d p fu : Nat) (c : h_C), p + d = n → d < fu → c 206 w 0 = (n : Int) → ∃ c', GO_Works_buildLike_63 fu w u (p : Int) c = some c' ∧ eC [2031, 2032] c c' ∧ (∀ x, ¬ (16 * w + p ≤ x ∧ x < 16 * w + n) → c' 2031 x = c 2031 x) ∧ (∀ x, x ≠ w → c' 2032 x = c 2032 x) ∧ (∀ k, ¬ (p ≤ k ∧ k < n) → c' 2032 w k = c 2032 w k) ∧ (∀ q, p ≤ q → q < n → c' 2032 w q = c 2032 u q ∧ ∀ t, t < 4 → c' 2031 (16 * w + q) t = c 2031 (16 * u + q) t) := by
  intro d
  induction d with
  | zero =>
    intro p fu c hd hf e2
    obtain ⟨fu, rfl⟩ : ∃ g, fu = g + 1 := ⟨fu - 1, by omega⟩
    refine ⟨c, ?_, eC.rf _ _, fun _ _ => rfl, fun _ _ => rfl, fun _ _ => rfl, fun q h1 h2 => by omega⟩
    show GL_Works_buildLike_63 _ _ _ _ c = _
    unfold GL_Works_buildLike_63
    rw [gd1 hw, e2, if_pos (by omega)]
  | succ d ih =>
    intro p fu c hd hf e2
    obtain ⟨fu, rfl⟩ : ∃ g, fu = g + 1 := ⟨fu - 1, by omega⟩
    generalize hc1 : wc (sr c 2031 (16 * w + p) (cp (c 2031 (16 * u + p)) 0 (c 2031 (16 * w + p)) 0 4)) 2032 w p (c 2032 u p) = c1
    have n1 : eC [2031, 2032] c c1 := by rw [← hc1]; exact (by repeat first | exact eC.rf _ _ | refine eC.wc ?_ (by decide) _ _ _ | refine eC.sr ?_ (by decide) _ _)
    obtain ⟨c', y1, y2, y3, y4, y5, y6⟩ := ih (p + 1) fu c1 (by omega) (by omega) (by rw [n1 206 (by decide)]; exact e2)
    have v31 : ∀ x, x ≠ 16 * w + p → c1 2031 x = c 2031 x := fun x hx => by
      funext k
      rw [← hc1, wc_ne (by decide), sr_at, if_neg (fun z => hx z.2)]
    have v32 : ∀ x k, (x ≠ w ∨ k ≠ p) → c1 2032 x k = c 2032 x k := fun x k hx => by
      rw [← hc1, wc_at, if_neg (by omega), sr_ne (by decide)]
    refine ⟨c', ?_, n1.tr y2, fun x hx => ?_, fun x hx => ?_, fun k hk => ?_, fun q h1 h2 => ?_⟩
    · rw [← y1]
      show GL_Works_buildLike_63 _ _ _ _ c = _
      unfold GL_Works_buildLike_63
      rw [gd1 hw, e2, if_neg (by omega), gd1 hu, gd1 (by omega), gd1 (by decide), Int.toNat_natCast, bi1, show (sr c 2031 (16 * w + p) (cp (c 2031 (16 * u + p)) (0 : Int).toNat (c 2031 (16 * w + p)) (0 : Int).toNat (4 : Int).toNat)) 2032 u p = c 2032 u p from sr_ne (by decide) _ _, show (0 : Int).toNat = 0 from rfl, show (4 : Int).toNat = 4 from rfl, bi1, hc1, p_w1 (by omega) (by omega)]
      rfl
    · rw [y3 x (by omega), v31 x (by omega)]
    · rw [y4 x hx]
      funext k
      exact v32 x k (Or.inl hx)
    · rw [y5 k (by omega), v32 w k (by omega)]
    · by_cases z : q = p
      · subst z
        refine ⟨?_, fun t ht => ?_⟩
        · rw [y5 q (by omega), ← hc1, wc_at, if_pos ⟨rfl, rfl, rfl⟩]
        · rw [y3 _ (by omega), ← hc1, wc_ne (by decide), sr_at, if_pos ⟨rfl, rfl⟩, cp_at, if_pos (by omega), Nat.sub_zero, Nat.zero_add]
      · obtain ⟨q1, q2⟩ := y6 q (by omega) h2
        refine ⟨?_, fun t ht => ?_⟩
        · rw [q1, v32 u q (by omega)]
        · rw [q2 t ht]
          by_cases z' : 16 * u + q = 16 * w + p
          · omega
          · rw [v31 _ z']
