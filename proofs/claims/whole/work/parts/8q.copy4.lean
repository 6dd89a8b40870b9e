/-! ===== copy ===== -/
theorem tS_cg {m m' : h_M} {a a' : Nat} : ∀ (n : Nat), (∀ t, t < n → m' 52 (a' + t) = m 52 (a + t) ∧ m' 53 (a' + t) = m 53 (a + t) ∧ m' 54 (a' + t) = m 54 (a + t) ∧ m' 55 (a' + t) = m 55 (a + t)) → tS m' a' n = tS m a n := by
  intro n
  induction n with
  | zero => intro _; rfl
  | succ n ih =>
    intro h
    obtain ⟨h1, h2, h3, h4⟩ := h n (by omega)
    unfold tS tT
    rw [ih (fun t ht => h t (by omega)), h1, h2, h3, h4]
theorem tW_cg {m m' : h_M} {a a' : Nat} : ∀ (n : Nat), (∀ r, r < n → m' 49 (a' + r) = m 49 (a + r) ∧ m' 50 (a' + r) = m 50 (a + r) ∧ ∀ t, t < (m 50 (a + r)).toNat → m' 52 (4 * (a' + r) + t) = m 52 (4 * (a + r) + t) ∧ m' 53 (4 * (a' + r) + t) = m 53 (4 * (a + r) + t) ∧ m' 54 (4 * (a' + r) + t) = m 54 (4 * (a + r) + t) ∧ m' 55 (4 * (a' + r) + t) = m 55 (4 * (a + r) + t)) → tW m' a' n = tW m a n := by
  intro n
  induction n with
  | zero => intro _; rfl
  | succ n ih =>
    intro h
    obtain ⟨h1, h2, h3⟩ := h n (by omega)
    unfold tW tR
    rw [ih (fun r hr => h r (by omega)), h1, h2, tS_cg _ h3]
def lcP : List Nat := [202, 0, 1, 2, 3, 6, 7, 8, 9, 10, 11, 12, 13, 14, 15, 16, 2010, 2011, 500, 2020, 2021, 2022, 2023, 2024, 2025, 2026, 508, 2003, 206, 2031, 2032]
def lmP : List Nat := [5, 6, 7, 8, 9, 10, 11, 12, 13, 14, 15, 16, 17, 18, 19, 20, 21, 22, 3, 48, 49, 50, 51, 52, 53, 54, 55, 56, 57, 58]
theorem RR.copy {b : Nat} {c : h_C} {m : h_M} (h : RR b c m) {w u : Nat} (hw : w < 3) (hu : u < 3) (e1 : m 100 0 = (w : Int)) (h3 : m 3 w = 0) : ∃ c' m', G_Works_buildLike w u c = some c' ∧ GO_Mo_copy_39 3000 (u : Int) 0 m = G_Mo_built (m' 3 w) m' ∧ RR b (wc c' 213 w 0 0) (wm m' 81 w 0) ∧ eC lcP c c' ∧ eM lmP m m' ∧ c' 202 w 0 = m' 3 w := by
  obtain ⟨F1, F2, F3⟩ := h.F
  obtain ⟨n, hn⟩ : ∃ n : Nat, m 3 u = (n : Int) := ⟨(m 3 u).toNat, by have := F1 u; omega⟩
  have n40 : n ≤ 40 := by have := F1 u; omega
  have hne : u ≠ w ∨ n = 0 := by
    by_cases e : u = w
    · rw [e, h3] at hn; exact Or.inr (by omega)
    · exact Or.inl e
  obtain ⟨⟨U1, U2, U3⟩, U4, U5⟩ := h.U u hu
  obtain ⟨nr, hnr⟩ : ∃ nr : Nat, m 48 u = (nr : Int) := ⟨(m 48 u).toNat, by omega⟩
  obtain ⟨Q1, Q2, Q3, Q4⟩ := h.Q u hu
  obtain ⟨np, hnp⟩ : ∃ np : Nat, m 56 u = (np : Int) := ⟨(m 56 u).toNat, by omega⟩
  -- the class
  generalize hc1 : wc c 202 w 0 (n : Int) = c1
  have a1 : eC [202] c c1 := by rw [← hc1]; exact (by repeat first | exact eC.rf _ _ | refine eC.wc ?_ (by decide) _ _ _ | refine eC.sr ?_ (by decide) _ _)
  obtain ⟨c2, b1, b2, b3, b4⟩ := s_buildGears hw hu n40 hne n 0 3000 c1 (by omega) (by omega) (by rw [← hc1]; simp [wc_at]) (fun i => by
    rw [a1 0 (by decide), a1 7 (by decide), (F2 i).1, (h.G.1 i).1.2.1]
    exact ⟨(F2 i).2.2.1, (F2 i).2.2.2.1, (h.G.1 i).2.2.1⟩)
  obtain ⟨c3, d1, d2, d3, d4, d5, d6, d7, d8⟩ := s_ruleBy hw (u := u) (by omega) c2
  generalize hc4 : wc c3 206 w 0 (np : Int) = c4
  have a4 : eC [206] c3 c4 := by rw [← hc4]; exact (by repeat first | exact eC.rf _ _ | refine eC.wc ?_ (by decide) _ _ _ | refine eC.sr ?_ (by decide) _ _)
  obtain ⟨c5, f1, f2, f3, f4, f5, f6⟩ := s_buildPlans hw hu (n := np) (by omega) np 0 3000 c4 (by omega) (by omega) (by rw [← hc4]; simp [wc_at])
  have n12 : eC ([202] ++ cgC) c c2 := (a1.up (by decide)).tr (b2.up (by decide))
  have n13 : eC ([202] ++ cgC ++ ruC) c c3 := (n12.up (by decide)).tr (d2.up (by decide))
  have n14 : eC ([202] ++ cgC ++ ruC ++ [206]) c c4 := (n13.up (by decide)).tr (a4.up (by decide))
  have n15 : eC lcP c c5 := (n14.up (by decide)).tr (f2.up (by decide))
  have hC : G_Works_buildLike w u c = some c5 := by
    unfold G_Works_buildLike
    rw [gd1 hu, gd1 hw, (F1 u).1, hn, hc1, bi1, show GO_Works_buildLike_10 3000 w u 0 c1 = _ from b1, d1, q_some, n13 206 (by decide), Q1, hnp, hc4, bi1]
    exact f1
  -- the reference
  obtain ⟨m1, i1, i2, i3, i4⟩ := n_copyGears hw hu n40 hne n 0 3000 m (by omega) (by omega) e1 hn (fun i => ⟨(F2 i).2.2.1, (F2 i).2.2.2.1, (h.G.1 i).2.2.1⟩)
  generalize hm2 : wm (wm m1 3 w (n : Int)) 48 w (nr : Int) = m2
  have j2 : eM [3, 48] m1 m2 := by rw [← hm2]; exact (by repeat first | exact eM.rf _ _ | refine eM.wm ?_ (by decide) _ _)
  have m248 : m2 48 u = (nr : Int) := by
    rw [← hm2, wm_at]
    by_cases e : u = w
    · rw [if_pos ⟨rfl, e⟩]
    · rw [if_neg (fun z => e z.2), wm_at, if_neg (by omega), i2 48 (by decide), hnr]
  obtain ⟨m3, k1, k2, k3, k4, k5⟩ := n_copyRules hw hu (n := nr) (by omega) nr 0 3000 m2 (by omega) (by omega) (by rw [j2 100 (by decide), i2 100 (by decide)]; exact e1) m248
  generalize hm4 : wm m3 56 w (np : Int) = m4
  have j4 : eM [56] m3 m4 := by rw [← hm4]; exact (by repeat first | exact eM.rf _ _ | refine eM.wm ?_ (by decide) _ _)
  have o2 : eM (cgM ++ [3, 48]) m m2 := (i2.up (by decide)).tr (j2.up (by decide))
  have o3 : eM (cgM ++ [3, 48] ++ crM) m m3 := (o2.up (by decide)).tr (k2.up (by decide))
  have o4 : eM (cgM ++ [3, 48] ++ crM ++ [56]) m m4 := (o3.up (by decide)).tr (j4.up (by decide))
  obtain ⟨m5, l1, l2, l3, l4, l5⟩ := n_copyPlans hw hu 16 0 3000 m4 (by omega) (by omega) (by rw [o4 100 (by decide)]; exact e1)
  have o5 : eM lmP m m5 := (o4.up (by decide)).tr (l2.up (by decide))
  have m100 : m1 100 0 = (w : Int) := by rw [i2 100 (by decide)]; exact e1
  have hM : GO_Mo_copy_39 3000 (u : Int) 0 m = G_Mo_built (m5 3 w) m5 := by
    rw [show GO_Mo_copy_39 3000 (u : Int) 0 m = _ from i1]
    unfold GL_Mo_copy_39
    rw [gd1 (by omega), Int.toNat_natCast, i2 3 (by decide), hn, if_pos (by omega), m100, gd1 (by omega), Int.toNat_natCast, bi1, show (wm m1 3 w (n : Int)) 100 0 = (w : Int) by simp [wm_at, m100], gd1 (by omega), Int.toNat_natCast, show (wm m1 3 w (n : Int)) 48 u = (nr : Int) by rw [wm_at, if_neg (by omega), i2 48 (by decide), hnr], bi1, hm2, show GO_Mo_copy_102 3000 (u : Int) 0 m2 = _ from k1, o3 56 (by decide), hnp, hm4]
    exact l1
  have r3 : ∀ x, m5 3 x = if x = w then (n : Int) else m 3 x := fun x => by
    rw [l2 3 (by decide), j4 3 (by decide), k2 3 (by decide), ← hm2, wm_at, if_neg (by omega), wm_at]
    by_cases e : x = w
    · rw [if_pos ⟨rfl, e⟩, if_pos e]
    · rw [if_neg (fun z => e z.2), if_neg e, i2 3 (by decide)]
  have r48 : ∀ x, m5 48 x = if x = w then (nr : Int) else m 48 x := fun x => by
    rw [l2 48 (by decide), j4 48 (by decide), k2 48 (by decide), ← hm2, wm_at]
    by_cases e : x = w
    · rw [if_pos ⟨rfl, e⟩, if_pos e]
    · rw [if_neg (fun z => e z.2), if_neg e, wm_at, if_neg (by omega), i2 48 (by decide)]
  have r56 : ∀ x, m5 56 x = if x = w then (np : Int) else m 56 x := fun x => by
    rw [l2 56 (by decide), ← hm4, wm_at]
    by_cases e : x = w
    · rw [if_pos ⟨rfl, e⟩, if_pos e]
    · rw [if_neg (fun z => e z.2), if_neg e, o3 56 (by decide)]
  have r202 : ∀ x, c5 202 x 0 = if x = w then (n : Int) else c 202 x 0 := fun x => by
    rw [f2 202 (by decide), a4 202 (by decide), d2 202 (by decide), b2 202 (by decide), ← hc1, wc_at]
    by_cases e : x = w
    · rw [if_pos ⟨rfl, e, rfl⟩, if_pos e]
    · rw [if_neg (fun z => e z.2.1), if_neg e]
  have r206 : ∀ x, c5 206 x 0 = if x = w then (np : Int) else c 206 x 0 := fun x => by
    rw [f2 206 (by decide), ← hc4, wc_at]
    by_cases e : x = w
    · rw [if_pos ⟨rfl, e, rfl⟩, if_pos e]
    · rw [if_neg (fun z => e z.2.1), if_neg e, n13 206 (by decide)]
  refine ⟨c5, m5, hC, hM, ?_, n15, o5, by rw [r202, if_pos rfl, r3, if_pos rfl]⟩
  -- rows of gears
  have gC : ∀ f, f ∈ cgC → (wc c5 213 w 0 0) f = c2 f := fun f hf => by
    have h1 : f ≠ 213 := (show ∀ f ∈ cgC, f ≠ 213 by decide) f hf
    have h2 : f ∉ [2031, 2032] := (show ∀ f ∈ cgC, f ∉ [2031, 2032] by decide) f hf
    have h3 : f ∉ [206] := (show ∀ f ∈ cgC, f ∉ [206] by decide) f hf
    have h4 : f ∉ ruC := (show ∀ f ∈ cgC, f ∉ ruC by decide) f hf
    funext i k
    rw [wc_ne h1, f2 f h2, a4 f h3, d2 f h4]
  have gM : ∀ f, f ∈ cgM → (wm m5 81 w 0) f = m1 f := fun f hf => by
    have h1 : f ≠ 81 := (show ∀ f ∈ cgM, f ≠ 81 by decide) f hf
    have h2 : f ∉ [57, 58] := (show ∀ f ∈ cgM, f ∉ [57, 58] by decide) f hf
    have h3 : f ∉ [56] := (show ∀ f ∈ cgM, f ∉ [56] by decide) f hf
    have h4 : f ∉ crM := (show ∀ f ∈ cgM, f ∉ crM by decide) f hf
    have h5 : f ∉ [3, 48] := (show ∀ f ∈ cgM, f ∉ [3, 48] by decide) f hf
    funext x
    rw [wm_at, if_neg (fun z => h1 z.1), l2 f h2, j4 f h3, k2 f h4, j2 f h5]
  have gco : ∀ f i, f ∈ cgC → (i < 40 * w ∨ 40 * w + n ≤ i) → c2 f (i + 1) = c f (i + 1) := fun f i hf hi => by
    rw [b3 f (i + 1) (by omega), a1 f (by revert hf; revert f; decide)]
  have gmo : ∀ f i, f ∈ [5, 6, 7, 9, 10, 12, 13, 14, 15, 16, 17, 18, 19, 20, 21] → (i < 40 * w ∨ 40 * w + n ≤ i) → m1 f i = m f i := fun f i hf hi => i3.1 f i hf (by omega)
  have gci : ∀ g, g < n → GC c c2 (40 * w + g + 1) (40 * u + g + 1) := fun g hg => by
    have := b4 g (by omega) hg
    unfold GC at this ⊢
    rw [a1 0 (by decide), a1 1 (by decide), a1 2 (by decide), a1 3 (by decide), a1 7 (by decide), a1 2010 (by decide), a1 2011 (by decide)] at this
    exact this
  have gmi : ∀ g, g < n → MC m m1 (40 * w + g) (40 * u + g) := fun g hg => i4 g (by omega) hg
  have k3' : ∀ x, (wm m5 81 w 0) 3 x = if x = w then (n : Int) else m 3 x := fun x => by rw [wm_at, if_neg (by omega)]; exact r3 x
  have nCF : eC (lcP ++ [213]) c (wc c5 213 w 0 0) := (n15.up (by decide)).tr (eC.up (l := [213]) (by repeat first | exact eC.rf _ _ | refine eC.wc ?_ (by decide) _ _ _ | refine eC.sr ?_ (by decide) _ _) (by decide))
  have nMF : eM (lmP ++ [81]) m (wm m5 81 w 0) := (o5.up (by decide)).tr (eM.up (l := [81]) (by repeat first | exact eM.rf _ _ | refine eM.wm ?_ (by decide) _ _) (by decide))
  have hF : RF (wc c5 213 w 0 0) (wm m5 81 w 0) := by
    refine ⟨fun w' => ?_, fun i => ?_, fun w' g hw' hg => ?_⟩
    · rw [k3', wc_ne (by decide), r202]
      by_cases e : w' = w
      · rw [if_pos e, if_pos e]; omega
      · rw [if_neg e, if_neg e]; exact F1 w'
    · rw [gC 0 (by decide), gC 1 (by decide), gM 5 (by decide), gM 6 (by decide)]
      by_cases hi : i < 40 * w ∨ 40 * w + n ≤ i
      · rw [gco 0 i (by decide) hi, gco 1 i (by decide) hi, gmo 5 i (by decide) hi, gmo 6 i (by decide) hi]
        exact F2 i
      · obtain ⟨g, rfl⟩ : ∃ g, i = 40 * w + g := ⟨i - 40 * w, by omega⟩
        obtain ⟨⟨x1, x2, _⟩, _⟩ := gci g (by omega)
        obtain ⟨⟨y1, y2, _⟩, _⟩ := gmi g (by omega)
        rw [x1, x2, y1, y2]
        exact F2 _
    · rw [gM 5 (by decide), gM 6 (by decide)]
      rw [k3'] at hg
      by_cases e : w' = w
      · subst e
        rw [if_pos rfl] at hg
        obtain ⟨⟨y1, y2, _⟩, _⟩ := gmi g (by omega)
        rw [y1, y2]
        exact F3 u g hu (by omega)
      · rw [if_neg e] at hg
        have := (F1 w').2.2
        rw [gmo 5 _ (by decide) (by omega), gmo 6 _ (by decide) (by omega)]
        exact F3 w' g hw' hg
  have hG : RG (wc c5 213 w 0 0) (wm m5 81 w 0) := by
    obtain ⟨G1, G2⟩ := h.G
    refine ⟨fun i => ?_, fun w' g hw' hg => ?_⟩
    · rw [gC 6 (by decide), gC 7 (by decide), gC 8 (by decide), gC 9 (by decide), gC 10 (by decide), gC 11 (by decide), gC 12 (by decide), gC 13 (by decide), gC 14 (by decide), gC 16 (by decide), gC 2 (by decide), gC 2010 (by decide), gC 2011 (by decide), gM 10 (by decide), gM 14 (by decide), gM 16 (by decide), gM 17 (by decide), gM 18 (by decide), gM 19 (by decide), gM 20 (by decide), gM 21 (by decide), gM 13 (by decide), gM 15 (by decide), gM 5 (by decide), gM 9 (by decide), gM 8 (by decide), gM 11 (by decide)]
      by_cases hi : i < 40 * w ∨ 40 * w + n ≤ i
      · rw [gco 6 i (by decide) hi, gco 7 i (by decide) hi, gco 8 i (by decide) hi, gco 9 i (by decide) hi, gco 10 i (by decide) hi, gco 11 i (by decide) hi, gco 12 i (by decide) hi, gco 13 i (by decide) hi, gco 14 i (by decide) hi, gco 16 i (by decide) hi, gco 2 i (by decide) hi, gco 2010 i (by decide) hi, gco 2011 i (by decide) hi, gmo 10 i (by decide) hi, gmo 14 i (by decide) hi, gmo 16 i (by decide) hi, gmo 17 i (by decide) hi, gmo 18 i (by decide) hi, gmo 19 i (by decide) hi, gmo 20 i (by decide) hi, gmo 21 i (by decide) hi, gmo 13 i (by decide) hi, gmo 15 i (by decide) hi, gmo 5 i (by decide) hi, gmo 9 i (by decide) hi, i3.2.2.1 (2 * i) (by omega), i3.2.2.1 (2 * i + 1) (by omega)]
        obtain ⟨x1, x2, x3, x4, x5, x6, x7, x8⟩ := G1 i
        exact ⟨x1, x2, x3, x4, x5, x6, fun k hk => by rw [i3.2.1 _ (by omega)]; exact x7 k hk, x8⟩
      · obtain ⟨g, rfl⟩ : ∃ g, i = 40 * w + g := ⟨i - 40 * w, by omega⟩
        obtain ⟨⟨p0, p1, p2, p3, p7, p6, p8, p9, p10, p11, p12, p13, p14, p15, p16⟩, q1, q2⟩ := gci g (by omega)
        obtain ⟨⟨s5, s6, s7, s9, s14, s10, s12, s13, s15, s16, s17, s18, s19, s20, s21⟩, t1, t2, t3⟩ := gmi g (by omega)
        obtain ⟨⟨_, x17, _⟩, x2, x3, x4, x5, x6, x7, x8⟩ := G1 (40 * u + g)
        have t20 := t2 0 (by omega)
        have t21 := t2 1 (by omega)
        rw [Nat.add_zero, Nat.add_zero] at t20
        rw [p6, p7, p8, p9, p10, p11, p12, p13, p14, p16, p2, s10, s14, s16, s17, s18, s19, s20, s21, s13, s15, s5, s9, q2 1 (by omega), q2 2 (by omega), t20, t21]
        exact ⟨⟨rfl, x17, rfl, rfl, rfl, rfl, rfl, rfl, rfl, rfl⟩, ⟨by omega, Or.inl rfl⟩, x3, by omega, x5, x6, fun k hk => by rw [q1 k hk, t1 k hk]; exact x7 k hk, x8⟩
    · rw [gC 3 (by decide), gC 15 (by decide), gM 7 (by decide), gM 12 (by decide), k3']
      by_cases e : w' = w
      · subst e
        rw [if_pos rfl]
        by_cases hgn : g < n
        · obtain ⟨⟨p0, p1, p2, p3, p7, p6, p8, p9, p10, p11, p12, p13, p14, p15, p16⟩, _⟩ := gci g hgn
          obtain ⟨⟨s5, s6, s7, s9, s14, s10, s12, _⟩, _⟩ := gmi g hgn
          rw [p3, p15, s7, s12]
          obtain ⟨z1, z2, z3, _⟩ := (G2 u g hu hg).1 (by omega)
          exact ⟨fun _ => ⟨z1, z2, z3, rfl, by omega⟩, fun z => by omega⟩
        · rw [gco 3 _ (by decide) (by omega)]
          exact ⟨fun z => by omega, fun _ => (G2 w' g hw' hg).2 (by omega)⟩
      · rw [if_neg e, gco 3 _ (by decide) (by omega), gco 15 _ (by decide) (by omega), gmo 7 _ (by decide) (by omega), gmo 12 _ (by decide) (by omega)]
        exact G2 w' g hw' hg
  have hP : RP b (wc c5 213 w 0 0) (wm m5 81 w 0) := by
    obtain ⟨p1, p2, p3, p4, p5⟩ := h.P
    have z101 : ∀ pl, 1 ≤ pl → pl ≤ 30 → c 101 (31 * w + pl) 0 = 0 := fun pl x1 x2 => by
      rcases p3 w pl hw x1 x2 with z | ⟨q, _, z⟩
      · exact z
      · obtain ⟨⟨_, g, k, _, _, _, _, z, _⟩, _⟩ := z
        omega
    have m6 : ∀ w' g, w' ≠ w → w' < 3 → g < 40 → (wm m5 81 w 0) 6 (40 * w' + g) = m 6 (40 * w' + g) := fun w' g e _ hg => by rw [gM 6 (by decide), gmo 6 _ (by decide) (by omega)]
    refine ⟨fun w' pl hw' x1 x2 => by rw [nCF 100 (by decide)]; exact p1 w' pl hw' x1 x2, fun w' g k hw' hg hk => ?_, fun w' pl hw' x1 x2 => ?_, fun w' q hw' x1 x2 x3 x4 => ?_, fun w' hw' => ?_⟩
    · have old := p2 w' g k hw' hg hk
      unfold SL at old ⊢
      rw [nCF 2012 (by decide), nCF 101 (by decide), nCF 105 (by decide), nCF 106 (by decide), gM 22 (by decide), k3']
      by_cases e : w' = w
      · subst e
        rcases old with ⟨z1, z2⟩ | ⟨_, _, _, _, _, _, _, _, z, _⟩
        · refine Or.inl ⟨z1, ?_⟩
          by_cases hgn : g < n
          · exact (gmi g hgn).2.2.2 k hk
          · rw [i3.2.2.2 _ (by omega)]; exact z2
        · omega
      · rw [if_neg e, i3.2.2.2 _ (by omega)]
        rcases old with z | ⟨pl, z1, z2, z3, z4, z5, z6, z7, z8, z9⟩
        · exact Or.inl z
        · exact Or.inr ⟨pl, z1, z2, z3, z4, z5, z6, z7, z8, by rw [m6 w' g e hw' hg]; exact z9⟩
    · rw [nCF 101 (by decide)]
      by_cases e : w' = w
      · subst e
        exact Or.inl (z101 pl x1 x2)
      · rcases p3 w' pl hw' x1 x2 with z | ⟨q, z1, z2⟩
        · exact Or.inl z
        · refine Or.inr ⟨q, z1, ?_⟩
          obtain ⟨⟨y1, g, k, y2, y3, y4, y5, y6, y7, y8, y9, y10⟩, yr⟩ := z2
          unfold PO
          rw [nCF 102 (by decide), nCF 103 (by decide), nCF 104 (by decide), nCF 105 (by decide), nCF 106 (by decide), nCF 107 (by decide), nCF 109 (by decide), nCF 111 (by decide), nCF 2012 (by decide), nCF 2014 (by decide), nCF 2015 (by decide), nMF 24 (by decide), nMF 25 (by decide), nMF 26 (by decide), nMF 27 (by decide), nMF 28 (by decide), nMF 29 (by decide), nMF 30 (by decide), nMF 31 (by decide), nMF 32 (by decide), nMF 33 (by decide), nMF 34 (by decide), nMF 35 (by decide), nMF 123 (by decide), k3', if_neg e]
          exact ⟨⟨y1, g, k, y2, y3, y4, y5, y6, by rw [m6 w' g e hw' y2]; exact y7, y8, y9, y10⟩, yr⟩
    · rw [nMF 123 (by decide)] at x2
      rw [nMF 24 (by decide)] at x3
      rw [nMF 25 (by decide)] at x4
      rw [nCF 101 (by decide)]
      exact p4 w' q hw' x1 x2 x3 x4
    · rw [nCF 302 (by decide), nCF 101 (by decide), nMF 38 (by decide)]
      exact p5 w' hw'
  have uC : ∀ f, f ∈ ruC → (wc c5 213 w 0 0) f = c3 f ∧ c2 f = c f := fun f hf => by
    have h1 : f ≠ 213 := (show ∀ f ∈ ruC, f ≠ 213 by decide) f hf
    have h2 : f ∉ [2031, 2032] := (show ∀ f ∈ ruC, f ∉ [2031, 2032] by decide) f hf
    have h3 : f ∉ [206] := (show ∀ f ∈ ruC, f ∉ [206] by decide) f hf
    have h4 : f ∉ [202] ++ cgC := (show ∀ f ∈ ruC, f ∉ [202] ++ cgC by decide) f hf
    refine ⟨?_, n12 f h4⟩
    funext i k
    rw [wc_ne h1, f2 f h2, a4 f h3]
  have uM : ∀ f, f ∈ crM → (wm m5 81 w 0) f = m3 f ∧ m2 f = m f := fun f hf => by
    have h1 : f ≠ 81 := (show ∀ f ∈ crM, f ≠ 81 by decide) f hf
    have h2 : f ∉ [57, 58] := (show ∀ f ∈ crM, f ∉ [57, 58] by decide) f hf
    have h3 : f ∉ [56] := (show ∀ f ∈ crM, f ∉ [56] by decide) f hf
    have h4 : f ∉ cgM ++ [3, 48] := (show ∀ f ∈ crM, f ∉ cgM ++ [3, 48] by decide) f hf
    refine ⟨?_, o2 f h4⟩
    funext x
    rw [wm_at, if_neg (fun z => h1 z.1), l2 f h2, j4 f h3]
  have k48 : ∀ x, (wm m5 81 w 0) 48 x = if x = w then (nr : Int) else m 48 x := fun x => by rw [wm_at, if_neg (by omega)]; exact r48 x
  have uo : ∀ f x, f ∈ [49, 50, 51] → ¬ (12 * w ≤ x ∧ x < 12 * w + nr) → m3 f x = m f x := fun f x hf hx => by
    have h1 : f ∈ crM := (by simp only [List.mem_cons, List.not_mem_nil, or_false, crM] at hf ⊢; omega)
    rw [k3 f x hf (by omega), (uM f h1).2]
  have uo2 : ∀ f x, f ∈ [52, 53, 54, 55] → ¬ (48 * w ≤ x ∧ x < 48 * w + 4 * nr) → m3 f x = m f x := fun f x hf hx => by
    have h1 : f ∈ crM := (by simp only [List.mem_cons, List.not_mem_nil, or_false, crM] at hf ⊢; omega)
    rw [k4 f x hf (by omega), (uM f h1).2]
  have ui : ∀ r, r < nr → m3 49 (12 * w + r) = m 49 (12 * u + r) ∧ m3 50 (12 * w + r) = m 50 (12 * u + r) ∧ m3 51 (12 * w + r) = 0 ∧ (∀ f t, f ∈ [52, 53, 54, 55] → t < 4 → m3 f (48 * w + 4 * r + t) = m f (48 * u + 4 * r + t)) := fun r hr => by
    have := k5 r (by omega) hr
    rw [(uM 49 (by decide)).2, (uM 50 (by decide)).2] at this
    exact ⟨this.1, this.2.1, this.2.2.1, fun f t hf ht => by
      have h1 : f ∈ crM := by revert hf; revert f; decide
      rw [this.2.2.2 f t hf ht, (uM f h1).2]⟩
  have hUr : RU (wc c5 213 w 0 0) (wm m5 81 w 0) := fun w' hw' => by
    rw [(uC 500 (by decide)).1, (uC 508 (by decide)).1, (uC 2003 (by decide)).1, (uC 2020 (by decide)).1, (uC 2021 (by decide)).1, (uC 2022 (by decide)).1, (uC 2023 (by decide)).1, (uC 2024 (by decide)).1, (uC 2025 (by decide)).1, (uC 2026 (by decide)).1, (uM 49 (by decide)).1, (uM 50 (by decide)).1, (uM 51 (by decide)).1, (uM 52 (by decide)).1, (uM 53 (by decide)).1, (uM 54 (by decide)).1, (uM 55 (by decide)).1, k48]
    by_cases e : w' = w
    · subst e
      rw [if_pos rfl]
      have hnr12 : nr ≤ 12 := by omega
      have et : tW (wm m5 81 w' 0) (12 * w') (nr : Int).toNat = tW m (12 * u) (m 48 u).toNat := by
        rw [hnr, Int.toNat_natCast]
        refine tW_cg nr (fun r hr => ?_)
        obtain ⟨x1, x2, x3, x4⟩ := ui r hr
        rw [(uM 49 (by decide)).1, (uM 50 (by decide)).1, (uM 52 (by decide)).1, (uM 53 (by decide)).1, (uM 54 (by decide)).1, (uM 55 (by decide)).1]
        have hb50 := (U4 r (by omega) (by omega)).2.1
        refine ⟨x1, x2, fun t ht => ?_⟩
        have e1 : 4 * (12 * w' + r) + t = 48 * w' + 4 * r + t := by omega
        have e2 : 4 * (12 * u + r) + t = 48 * u + 4 * r + t := by omega
        rw [e1, e2]
        exact ⟨x4 52 t (by decide) (by omega), x4 53 t (by decide) (by omega), x4 54 t (by decide) (by omega), x4 55 t (by decide) (by omega)⟩
      rw [et]
      obtain ⟨t1, t2, t3⟩ := U5
      refine ⟨⟨by rw [d4, (uC 500 (by decide)).2, U1, hnr], by omega, by omega⟩, fun r hr hr' => ?_, ⟨by rw [d5, (uC 508 (by decide)).2]; exact t1, t2, fun i hi => by rw [d8 i (by omega), (uC 2026 (by decide)).2]; exact t3 i hi⟩⟩
      obtain ⟨x1, x2, x3, x4⟩ := ui r (by omega)
      obtain ⟨y1, y2, y3, y4⟩ := U4 r hr (by omega)
      obtain ⟨z1, z2, z3⟩ := d6 r hr
      rw [x1, x2, x3, z1, z2, z3, (uC 2020 (by decide)).2, (uC 2021 (by decide)).2]
      refine ⟨y1, y2, rfl, fun t ht ht' => ?_⟩
      obtain ⟨v1, v2, v3, v4⟩ := d7 (4 * r + t) (by omega)
      rw [v1, v2, v3, v4, x4 52 t (by decide) ht, x4 53 t (by decide) ht, x4 54 t (by decide) ht, x4 55 t (by decide) ht, (uC 2022 (by decide)).2, (uC 2023 (by decide)).2, (uC 2024 (by decide)).2, (uC 2025 (by decide)).2]
      exact y4 t ht ht'
    · rw [if_neg e, d3 500 w' e, d3 508 w' e, d3 2003 w' e, d3 2020 w' e, d3 2021 w' e, d3 2022 w' e, d3 2023 w' e, d3 2024 w' e, d3 2025 w' e, d3 2026 w' e, (uC 500 (by decide)).2, (uC 508 (by decide)).2, (uC 2003 (by decide)).2, (uC 2020 (by decide)).2, (uC 2021 (by decide)).2, (uC 2022 (by decide)).2, (uC 2023 (by decide)).2, (uC 2024 (by decide)).2, (uC 2025 (by decide)).2, (uC 2026 (by decide)).2]
      obtain ⟨⟨x1, x2, x3⟩, x4, x5⟩ := h.U w' hw'
      have et : tW (wm m5 81 w 0) (12 * w') (m 48 w').toNat = tW m (12 * w') (m 48 w').toNat := by
        refine tW_cg _ (fun r hr => ?_)
        rw [(uM 49 (by decide)).1, (uM 50 (by decide)).1, (uM 52 (by decide)).1, (uM 53 (by decide)).1, (uM 54 (by decide)).1, (uM 55 (by decide)).1]
        have hb50 := (x4 r (by omega) (by omega)).2.1
        refine ⟨uo 49 _ (by decide) (by omega), uo 50 _ (by decide) (by omega), fun t ht => ⟨uo2 52 _ (by decide) (by omega), uo2 53 _ (by decide) (by omega), uo2 54 _ (by decide) (by omega), uo2 55 _ (by decide) (by omega)⟩⟩
      rw [et]
      refine ⟨⟨x1, x2, x3⟩, fun r hr hr' => ?_, x5⟩
      rw [uo 49 _ (by decide) (by omega), uo 50 _ (by decide) (by omega), uo 51 _ (by decide) (by omega)]
      obtain ⟨y1, y2, y3, y4⟩ := x4 r hr hr'
      refine ⟨y1, y2, y3, fun t ht ht' => ?_⟩
      rw [uo2 52 _ (by decide) (by omega), uo2 53 _ (by decide) (by omega), uo2 54 _ (by decide) (by omega), uo2 55 _ (by decide) (by omega)]
      exact y4 t ht ht'
  have hQ : RQ (wc c5 213 w 0 0) (wm m5 81 w 0) := fun w' hw' => by
    have e56 : (wm m5 81 w 0) 56 w' = if w' = w then (np : Int) else m 56 w' := by rw [wm_at, if_neg (by omega)]; exact r56 w'
    have e57 : (wm m5 81 w 0) 57 = m5 57 := by funext x; rw [wm_at, if_neg (by omega)]
    have e58 : (wm m5 81 w 0) 58 = m5 58 := by funext x; rw [wm_at, if_neg (by omega)]
    have e31 : (wc c5 213 w 0 0) 2031 = c5 2031 := by funext i k; rw [wc_ne (by decide)]
    have e32 : (wc c5 213 w 0 0) 2032 = c5 2032 := by funext i k; rw [wc_ne (by decide)]
    rw [wc_ne (by decide), r206, e56, e57, e58, e31, e32]
    by_cases e : w' = w
    · subst e
      rw [if_pos rfl, if_pos rfl]
      refine ⟨rfl, by omega, by omega, fun k hk hk' => ?_⟩
      obtain ⟨x1, x2⟩ := f6 k (by omega) (by omega)
      obtain ⟨y1, y2⟩ := l5 k (by omega) hk
      rw [x1, y1, n14 2032 (by decide), o4 57 (by decide)]
      obtain ⟨z1, z2, z3, z4⟩ := Q4 k hk (by omega)
      refine ⟨z1, z2, z3, fun j hj => ?_⟩
      rw [x2 j hj, y2 j hj, n14 2031 (by decide), o4 58 (by decide)]
      exact z4 j hj
    · rw [if_neg e, if_neg e]
      obtain ⟨x1, x2, x3, x4⟩ := h.Q w' hw'
      refine ⟨x1, x2, x3, fun k hk hk' => ?_⟩
      rw [f4 w' e, l3 _ (by omega), n14 2032 (by decide), o4 57 (by decide)]
      obtain ⟨z1, z2, z3, z4⟩ := x4 k hk hk'
      refine ⟨z1, z2, z3, fun j hj => ?_⟩
      rw [f3 _ (by omega), l4 _ (by omega), n14 2031 (by decide), o4 58 (by decide)]
      exact z4 j hj
  have hV : RV (wc c5 213 w 0 0) (wm m5 81 w 0) := fun w' i hw' hi => by
    rw [nCF 2036 (by decide), nCF 2035 (by decide), nCF 2034 (by decide), nMF 59 (by decide), nMF 60 (by decide), nMF 61 (by decide), k3']
    obtain ⟨x1, x2, x3, x4, x5, x6, x7⟩ := h.V w' i hw' hi
    refine ⟨x1, x2, x3, x4, x5, x6, fun k hk hk' => ?_⟩
    obtain ⟨y1, y2, y3⟩ := x7 k hk hk'
    refine ⟨y1, y2, ?_⟩
    by_cases e : w' = w
    · rw [if_pos e]; rw [e] at y3 ⊢; omega
    · rw [if_neg e]; exact y3
  have hK : RK b (wc c5 213 w 0 0) (wm m5 81 w 0) := RK.built h hw (lc := lcP) (lm := lmP) n15 o5 rfl rfl (fun w' e => by rw [r3, if_neg e]) (fun w' g e hw' hg => by
      have g5 : m5 5 (40 * w' + g) = m 5 (40 * w' + g) := by
        have := congrFun (gM 5 (by decide)) (40 * w' + g)
        rw [wm_at, if_neg (by omega)] at this
        rw [this, gmo 5 _ (by decide) (by omega)]
      have g6 : m5 6 (40 * w' + g) = m 6 (40 * w' + g) := by
        have := congrFun (gM 6 (by decide)) (40 * w' + g)
        rw [wm_at, if_neg (by omega)] at this
        rw [this, gmo 6 _ (by decide) (by omega)]
      exact ⟨g5, g6⟩) (fun w' e => by rw [r48, if_neg e]) (by rw [o5 81 (by decide)])
  exact RR.gen (lcP ++ [213]) (lmP ++ [81]) h nCF nMF (Or.inl ⟨rfl, rfl⟩) (Or.inr hF) (Or.inr hG) (Or.inl ⟨rfl, rfl⟩) (Or.inr hP) (Or.inl ⟨rfl, rfl⟩) (Or.inl ⟨rfl, rfl⟩) (Or.inr hUr) (Or.inr hQ) (Or.inr hV) (Or.inl ⟨rfl, rfl⟩) (Or.inr hK)
theorem pr_copy {b : Nat} {c : h_C} {m : h_M} (h : RR b c m) (hE : c 607 0 0 = m 102 0) (v1 : Int) : PR b (G_SW_copy v1 c) (G_Mo_copy v1 m) := by
  obtain ⟨w, hw, e1, e2⟩ := h.w
  have w3 : (0 : Int) ≤ (w : Int) ∧ (w : Int) < 3 := by omega
  have f1 := h.F.1 w
  unfold G_SW_copy G_Mo_copy GB_SW_copy_9
  by_cases hv : 0 ≤ v1 ∧ v1 ≤ 2
  case neg =>
    rw [s_beyond1 m hv, q_some, if_neg (show ¬ ((1 : Int) = 0) by decide), q_eta, q_eta]
    by_cases z : v1 < 0
    · rw [if_pos z]
      exact pr_refuse h _ (by omega) hE
    · rw [if_neg z, if_neg (by omega)]
      exact pr_refuse h _ (by omega) hE
  rw [s_beyond0 m hv, q_some, if_pos rfl, if_neg (by omega), if_pos (by omega), e1, e2, gd1 w3, gd1 w3, Int.toNat_natCast, f1.1]
  by_cases h3 : m 3 w ≤ 0
  case neg =>
    rw [if_neg h3, if_neg h3, q_eta, q_eta]
    exact pr_refuse h _ (by omega) hE
  rw [if_pos h3, if_pos h3]
  obtain ⟨u, rfl⟩ : ∃ u : Nat, v1 = (u : Int) := ⟨v1.toNat, by omega⟩
  obtain ⟨c', m', a1, a2, a3, a4, a5, a6⟩ := h.copy hw (u := u) (by omega) e1 (by omega)
  rw [gd1 (by omega), Int.toNat_natCast, a1, q_some, a4 5000 (by decide), e2, gd1 w3, Int.toNat_natCast, a6, q_eta, a2]
  exact pr_built2 hw (by rw [a5 100 (by decide)]; exact e1) (by rw [a4 5000 (by decide)]; exact e2) (by rw [a4 607 (by decide), a5 102 (by decide)]; exact hE) a3 _
