def aC : List Nat := [13, 9, 804, 16, 211, 2037, 108] ++ (scC ++ fC)
def aM : List Nat := [21, 17, 172, 15, 44, 45, 36] ++ (scM ++ fM)
theorem body_fr {m m' : h_M} {w : Nat} (hw : w < 3) (v : Int) (e1 : m 100 0 = (w : Int)) (t0 : 0 ≤ m 44 w) (t1 : m 44 w < 2000000000) (h : G_Mo_body v m = some m') : eM [44, 45] m m' ∧ m' 44 w = m 44 w + 1 := by
  have w3 : (0 : Int) ≤ (w : Int) ∧ (w : Int) < 3 := by omega
  have bp : p_w (m 44 w + 1) = m 44 w + 1 := p_w1 (by omega) (by omega)
  unfold G_Mo_body GB_Mo_body_37 at h
  rw [e1, gd1 w3, Int.toNat_natCast] at h
  by_cases z : 60 ≤ m 44 w
  · rw [if_pos z, gd1 w3, bi1, bp] at h
    have h' := Option.some.inj h
    subst h'
    exact ⟨eM.up (l := [44]) (by repeat first | exact eM.rf _ _ | refine eM.wm ?_ (by decide) _ _) (by decide), by rw [wm_at, if_pos ⟨rfl, rfl⟩]⟩
  · have g1 : (0 : Int) ≤ p_w (p_w (60 * (w : Int)) + m 44 w) ∧ p_w (p_w (60 * (w : Int)) + m 44 w) < 180 := by
      rw [p_w1 (x := 60 * (w : Int)) (by omega) (by omega), p_w1 (by omega) (by omega)]
      omega
    have r1 : ∀ (i : Nat), (wm m 45 i v) 100 0 = (w : Int) := fun i => by rw [wm_at, if_neg (by omega), e1]
    have r2 : ∀ (i : Nat), (wm m 45 i v) 44 w = m 44 w := fun i => by rw [wm_at, if_neg (by omega)]
    rw [if_neg z, gd1 g1, bi1, r1, gd1 w3, Int.toNat_natCast, r2, bi1, bp] at h
    have h' := Option.some.inj h
    subst h'
    exact ⟨(by repeat first | exact eM.rf _ _ | refine eM.wm ?_ (by decide) _ _), by rw [wm_at, if_pos ⟨rfl, rfl⟩]⟩
theorem bds_fr {w : Nat} (hw : w < 3) : ∀ (l : List Int) (m m' : h_M), m 100 0 = (w : Int) → 0 ≤ m 44 w → m 44 w + (l.length : Int) < 2000000000 → bds l m = some m' → eM [44, 45] m m' ∧ m' 44 w = m 44 w + (l.length : Int) := by
  intro l
  induction l with
  | nil =>
    intro m m' e1 t0 t1 h
    have h' : m = m' := Option.some.inj h
    subst h'
    exact ⟨eM.rf _ _, by simp⟩
  | cons v l ih =>
    intro m m' e1 t0 t1 h
    have t1' : m 44 w + ((l.length : Int) + 1) < 2000000000 := by simpa using t1
    have h' : (q_bv (G_Mo_body v m) fun m1 => bds l m1) = some m' := h
    cases e : G_Mo_body v m with
    | none => rw [e] at h'; cases h'
    | some m1 =>
      rw [e, q_some] at h'
      obtain ⟨a1, a2⟩ := body_fr hw v e1 t0 (by omega) e
      obtain ⟨b1, b2⟩ := ih m1 m' (by rw [a1 100 (by decide)]; exact e1) (by omega) (by omega) h'
      refine ⟨a1.tr b1, ?_⟩
      rw [b2, a2]
      simp only [List.length_cons]
      omega
theorem bB_len (K : Int) : (bB K).length ≤ 2 := by
  unfold bB
  repeat' split
  all_goals decide
/-- what goes on, then all that moves up -/
theorem ZZ.tail {b : Nat} (hb : b < 1000000000) {c : h_C} {m : h_M} {w : Nat} {F L : Int} (h : ZZ b c m w F L) (hCH : CH c m w) {g k : Nat} (hg : (g : Int) < m 3 w) (ha : m 171 0 = (g : Int)) (hk : m 5 (40 * w + g) < 9) (hk1 : m 6 (40 * w + g) = ((k + 1 : Nat) : Int)) (v5 v6 v7 : Int) (h5 : v5 = m 22 (8 * (40 * w + g) + k)) (h6 : v6 = if 0 < v5 ∧ m 36 v5.toNat = 0 then 1 else 0) : ∃ c' m', GB_Step_act_85 (g : Int) (40 * w + g + 1) (if v7 = 0 then 1 else 0) c = GB_Step_act_116 (40 * w + g + 1) c' ∧ aT (g : Int) ((40 * w + g : Nat) : Int) (m 5 (40 * w + g)) v5 v6 v7 m = some m' ∧ ZZ (b + 3) c' m' w F L ∧ eC aC c c' ∧ eM aM m m' := by
  obtain ⟨c1, m1, a1, a2, a3, a4, a5⟩ := h.on hb hCH hg ha hk hk1 v5 v6 v7 h5 h6
  obtain ⟨c2, m2, b1, b2, b3, b4, b5⟩ := a3.moveUp (g := g) (by rw [a5 3 (by decide)]; exact hg) (by rw [a5 5 (by decide)]; exact hk)
  refine ⟨c2, m2, ?_, ?_, b3, (a4.up (by decide)).tr (b4.up (by decide)), (a5.up (by decide)).tr (b5.up (by decide))⟩
  · unfold GB_Step_act_85
    rw [a1, q_some, b1, q_some]
  · rw [a2, ← b2, a5 6 (by decide)]
theorem CH.of {c c' : h_C} {m m' : h_M} {w : Nat} {lc lm : List Nat} (h : CH c m w) (hc : eC lc c c') (hm : eM lm m m') (d1 : dj [19] lc) (d2 : dj [3, 74] lm) : CH c' m' w := by
  unfold CH
  rw [hc.of (f := 19) (s := [19]) (by decide) d1, hm.of (f := 3) (s := [3, 74]) (by decide) d2, hm.of (f := 74) (s := [3, 74]) (by decide) d2]
  exact h
theorem ZZ.taker {b : Nat} (hb : b < 900000000) {c : h_C} {m : h_M} {w : Nat} {F L : Int} (h : ZZ b c m w F L) (hCH : CH c m w) {g : Nat} (hg : (g : Int) < m 3 w) (ha : m 171 0 = (g : Int)) {K : Nat} (hK : m 5 (40 * w + g) = (K : Int)) (hk : K < 9) (n : Nat) : ∃ c' m', GO_Step_act_22 (n + 4) (g : Int) (40 * w + g + 1) ((3 * K : Nat) : Int) c = GB_Step_act_116 (40 * w + g + 1) c' ∧ G_Mo_actTaker (g : Int) m = some m' ∧ ZZ (b + 19) c' m' w F L ∧ eC aC c c' ∧ eM aM m m' := by
  obtain ⟨hR, ⟨hw, e1, e2, e3, e4, e5⟩, hMV, _⟩ := id h
  obtain ⟨g40, i120, hj, eK, k0, k10, eL, l0, l8, lt, ln⟩ := hR.gr hw hg
  rw [hK] at eK
  have hk9 : m 5 (40 * w + g) < 9 := by omega
  obtain ⟨k, k8, hk1, _⟩ := s_inLast hR hw hg hk9
  have w3 : (0 : Int) ≤ (w : Int) ∧ (w : Int) < 3 := by omega
  have i12 : (0 : Int) ≤ ((40 * w + g : Nat) : Int) ∧ ((40 * w + g : Nat) : Int) < 120 := by omega
  have t0 : 0 ≤ m 44 w := (hR.T w hw).2.1
  -- the bodies
  obtain ⟨c1, m1, a1, a2, a3, a4, a5⟩ := h.act3 (by omega) hj (g : Int) (K := K) (by omega) eK (n + 1)
  have e1c : c1 0 (40 * w + g + 1) 0 = (K : Int) := by rw [a4 0 (by decide)]; exact eK
  have hg1 : (g : Int) < m1 3 w := by rw [a5 3 (by decide)]; exact hg
  have ha1 : m1 171 0 = (g : Int) := by rw [a5 171 (by decide)]; exact ha
  have hK1 : m1 5 (40 * w + g) = (K : Int) := by rw [a5 5 (by decide)]; exact hK
  have hCH1 : CH c1 m1 w := hCH.of a4 a5 rfl rfl
  obtain ⟨hR1, ⟨_, f1, f2, f3, f4, f5⟩, hMV1, _⟩ := id a3
  obtain ⟨k', k8', hk1', hin⟩ := s_inLast hR1 hw hg1 (by rw [hK1]; omega)
  have ek : k' = k := by rw [a5 6 (by decide)] at hk1'; omega
  subst ek
  have e22 : m1 22 = m 22 := a5 22 (by decide)
  have e36 : m1 36 = m 36 := a5 36 (by decide)
  -- the class behind its bodies
  have C1 : ∀ X, (if K = 3 ∨ K = 4 then q_bd (G_Step_scan (g : Int) (40 * w + g + 1) c1) (fun r19 c20 => GB_Step_act_85 (g : Int) (40 * w + g + 1) (if r19 = 0 then 0 else 1) c20) else GB_Step_act_85 (g : Int) (40 * w + g + 1) 1 c1) = X → GO_Step_act_22 (n + 4) (g : Int) (40 * w + g + 1) ((3 * K : Nat) : Int) c = X := by
    intro X hX
    rw [show n + 4 = n + 1 + 3 from rfl, a1]
    show GL_Step_act_22 _ _ _ _ c1 = _
    unfold GL_Step_act_22 G_Gear_isScanner GB_Gear_isScanner_16 GB_Step_act_80
    rw [gd1 hj, e1c, p_w1 (x := (K : Int) + 1) (by omega) (by omega), p_w1 (x := 3 * ((K : Int) + 1)) (by omega) (by omega), if_pos (by omega), s_cTaker hj, e1c, if_pos (by omega), q_some, if_neg (by decide), gd1 hj, ← hX]
    by_cases z3 : K = 3
    · rw [if_pos (by omega), q_some, if_neg (by decide), if_pos (Or.inl z3)]
      congr 1
      funext r19 c20
      by_cases r0 : r19 = 0
      · rw [if_pos r0, if_pos r0]
      · rw [if_neg r0, if_neg r0]
    · by_cases z4 : K = 4
      · rw [if_neg (by omega), if_neg (by simp [z4]), q_some, if_neg (by decide), if_pos (Or.inr z4)]
        congr 1
        funext r19 c20
        by_cases r0 : r19 = 0
        · rw [if_pos r0, if_pos r0]
        · rw [if_neg r0, if_neg r0]
      · rw [if_neg (show ¬ ((K : Int) = 3) by omega), if_pos (show (K : Int) ≠ 4 by omega), q_some, if_pos rfl, if_neg (by omega)]
  -- the reference before its bodies
  have M1 : ∀ X, GB_Mo_actTaker_57 (g : Int) ((40 * w + g : Nat) : Int) (K : Int) (m 22 (8 * (40 * w + g) + k')) (if 0 < m 22 (8 * (40 * w + g) + k') ∧ m 36 (m 22 (8 * (40 * w + g) + k')).toNat = 0 then 1 else 0) m = X → G_Mo_actTaker (g : Int) m = X := by
    intro X hX
    have hs := (hR.P.2.1 w g k' hw g40 k8)
    have sq : m 22 (8 * (40 * w + g) + k') < 2001 := by
      rcases s_inSlot hR hw hg k8 with ⟨_, b2, _⟩ | ⟨pl, q, _, _, _, b4, _, _, _, _, b9, _⟩
      · omega
      · have := hR.N.2.2.1
        have := b9.1.1.2.1
        omega
    unfold G_Mo_actTaker GB_Mo_actTaker_56
    rw [s_g hw e1 g40, q_some, gd1 i12, Int.toNat_natCast, hK, hk1, bi1, p_w1 (x := 8 * ((40 * w + g : Nat) : Int)) (by omega) (by omega), p_w1 (x := 8 * ((40 * w + g : Nat) : Int) + ((k' + 1 : Nat) : Int)) (by omega) (by omega), p_w1 (by omega) (by omega), bi1, gd1 (by omega), show (8 * ((40 * w + g : Nat) : Int) + ((k' + 1 : Nat) : Int) - 1).toNat = 8 * (40 * w + g) + k' by omega, bi1, ← hX]
    by_cases z : m 22 (8 * (40 * w + g) + k') ≤ 0
    · rw [if_pos z, if_neg (show ¬ (0 < m 22 (8 * (40 * w + g) + k') ∧ m 36 (m 22 (8 * (40 * w + g) + k')).toNat = 0) from fun y => by omega)]
    · rw [if_neg z, gd1 ⟨by omega, sq⟩]
      by_cases y : m 36 (m 22 (8 * (40 * w + g) + k')).toNat = 0
      · rw [if_neg (fun x => x y), if_pos ⟨by omega, y⟩]
      · rw [if_pos y, if_neg (fun x => y x.2)]
  have happ : q_bv (bds (bB (K : Int)) m) (fun m3 => bds (bL (K : Int)) m3) = some m1 := by
    rw [← bds_app, bBL (by omega) (by omega), Int.toNat_natCast]; exact a2
  generalize hv5 : m 22 (8 * (40 * w + g) + k') = v5 at M1
  generalize hv6 : (if 0 < v5 ∧ m 36 v5.toNat = 0 then (1 : Int) else 0) = v6 at M1
  obtain ⟨m0, hm0, hm1⟩ : ∃ m0, bds (bB (K : Int)) m = some m0 ∧ bds (bL (K : Int)) m0 = some m1 := by
    cases e : bds (bB (K : Int)) m with
    | none => rw [e] at happ; exact absurd happ (by intro z; cases z)
    | some m0 => rw [e, q_some] at happ; exact ⟨m0, rfl, happ⟩
  -- without a scan
  have noscan : (∀ X, aT (g : Int) ((40 * w + g : Nat) : Int) (K : Int) v5 v6 0 m1 = X → G_Mo_actTaker (g : Int) m = X) → (∀ X, GB_Step_act_85 (g : Int) (40 * w + g + 1) 1 c1 = X → GO_Step_act_22 (n + 4) (g : Int) (40 * w + g + 1) ((3 * K : Nat) : Int) c = X) → ∃ c' m', GO_Step_act_22 (n + 4) (g : Int) (40 * w + g + 1) ((3 * K : Nat) : Int) c = GB_Step_act_116 (40 * w + g + 1) c' ∧ G_Mo_actTaker (g : Int) m = some m' ∧ ZZ (b + 19) c' m' w F L ∧ eC aC c c' ∧ eM aM m m' := by
    intro kM kC
    obtain ⟨c', m', z1, z2, z3, z4, z5⟩ := a3.tail (by omega) hCH1 hg1 ha1 (by rw [hK1]; omega) hk1' v5 v6 0 (by rw [e22, hv5]) (by rw [e36, hv6])
    rw [hK1] at z2
    exact ⟨c', m', kC _ z1, kM _ z2, z3.more (by omega), (a4.up (by decide)).tr z4, (a5.up (by decide)).tr z5⟩
  have M101 : ∀ X, aT (g : Int) ((40 * w + g : Nat) : Int) (K : Int) v5 v6 0 m1 = X → GB_Mo_actTaker_101 (g : Int) ((40 * w + g : Nat) : Int) (K : Int) v5 v6 0 m0 = X := fun X hX => by
    rw [aT_eq, s_bodiesLast, hm1, q_some]; exact hX
  have M57 : ∀ X, (if v6 = 0 ∨ ¬ (K = 3 ∨ K = 4) then GB_Mo_actTaker_101 (g : Int) ((40 * w + g : Nat) : Int) (K : Int) v5 v6 0 m0 else GB_Mo_actTaker_82 (g : Int) ((40 * w + g : Nat) : Int) (K : Int) v5 v6 0 m0) = X → G_Mo_actTaker (g : Int) m = X := fun X hX => M1 X (by
    unfold GB_Mo_actTaker_57
    rw [s_bodies, hm0, q_some, ← hX]
    by_cases z : v6 = 0
    · rw [if_pos z, if_pos (Or.inl z), z]
    · rw [if_neg z]
      by_cases z3 : K = 3
      · rw [if_pos (show (K : Int) = 3 by omega), if_neg (by omega)]
      · rw [if_neg (show ¬ (K : Int) = 3 by omega)]
        by_cases z4 : K = 4
        · rw [if_neg (show ¬ (K : Int) ≠ 4 by omega), if_neg (by omega)]
        · rw [if_pos (show (K : Int) ≠ 4 by omega), if_pos (by omega)])
  by_cases sK : K = 3 ∨ K = 4
  case neg => exact noscan (fun X hX => M57 X (by rw [if_pos (Or.inr sK)]; exact M101 X hX)) (fun X hX => C1 X (by rw [if_neg sK]; exact hX))
  have quiet : G_Step_scan (g : Int) (40 * w + g + 1) c1 = some (1, c1) → ∀ X, GB_Step_act_85 (g : Int) (40 * w + g + 1) 1 c1 = X → GO_Step_act_22 (n + 4) (g : Int) (40 * w + g + 1) ((3 * K : Nat) : Int) c = X := fun hs X hX => C1 X (by
    rw [if_pos sK, hs, q_some2, if_neg (by decide)]; exact hX)
  rcases s_inSlot hR1 hw hg1 k8 with ⟨x1, x2, x3⟩ | ⟨pl, q, b1, b2, b3, b4, b5, b6, b7, b8, b9, b10⟩
  · have v60 : v6 = 0 := by
      rw [← hv6, if_neg (fun y => by rw [e22, hv5] at x2; omega)]
    refine noscan (fun X hX => M57 X (by rw [if_pos (Or.inl v60)]; exact M101 X hX)) (quiet ?_)
    unfold G_Step_scan
    rw [f5, gd1 w3, Int.toNat_natCast, hin, x3, q_some, if_pos rfl]
  have hq1 : 1 ≤ q := b9.1.1.1
  have hvp : vP (31 * w + pl) := ⟨by omega, by omega⟩
  have qn := b9.1.1.2.1
  have n2 := hR1.N.2.2.1
  have hmv := (hMV1 pl q b1 b2 hq1 b5).1
  have s107 := b9.2.2.2.2.1.1
  have v5q : v5 = (q : Int) := by rw [← hv5, ← e22]; exact b4
  subst v5q
  rw [Int.toNat_natCast] at hv6
  by_cases mv : m 36 q = 0
  case neg =>
    have v60 : v6 = 0 := by rw [← hv6, if_neg (fun y => mv y.2)]
    refine noscan (fun X hX => M57 X (by rw [if_pos (Or.inl v60)]; exact M101 X hX)) (quiet ?_)
    unfold G_Step_scan
    rw [f5, gd1 w3, Int.toNat_natCast, hin, b10, q_some, if_neg (by omega), gd1 hvp, hmv, e36, if_pos mv]
  have v61 : v6 = 1 := by rw [← hv6, if_pos ⟨by omega, mv⟩]
  have M82 : ∀ X, GB_Mo_actTaker_82 (g : Int) ((40 * w + g : Nat) : Int) (K : Int) (q : Int) v6 0 m0 = X → G_Mo_actTaker (g : Int) m = X := fun X hX => M57 X (by rw [if_neg (by omega)]; exact hX)
  -- the bodies touch the trace alone
  have t5 : bL (K : Int) = [1] := by unfold bL; rw [if_neg (by omega)]
  have hbd : G_Mo_body 1 m0 = some m1 := by
    rw [t5] at hm1
    cases e : G_Mo_body 1 m0 with
    | none =>
      have : (q_bv (G_Mo_body 1 m0) fun m1 => bds [] m1) = some m1 := hm1
      rw [e] at this
      cases this
    | some m9 =>
      have : (q_bv (G_Mo_body 1 m0) fun m1 => bds [] m1) = some m1 := hm1
      rw [e, q_some] at this
      exact this
  obtain ⟨y1, y2⟩ : (∀ f, f ≠ 44 → f ≠ 45 → m0 f = m1 f) ∧ 0 ≤ m0 44 w := by
    obtain ⟨_, t2⟩ := (hR.T w hw).2
    have bl := bB_len (K : Int)
    obtain ⟨u1, u2⟩ := bds_fr hw _ _ _ e1 t0 (by omega) hm0
    obtain ⟨u3, _⟩ := body_fr hw 1 (by rw [u1 100 (by decide)]; exact e1) (by omega) (by omega) hbd
    exact ⟨fun f f4 f5 => (u3 f (by simp [f4, f5])).symm, by omega⟩
  by_cases sc : m 35 q = 0
  case neg =>
    have sc1 : m1 35 q ≠ 0 := by rw [a5 35 (by decide)]; exact sc
    refine noscan (fun X hX => M82 X ?_) (quiet ?_)
    · unfold GB_Mo_actTaker_82
      rw [gd1 (by omega), Int.toNat_natCast, y1 35 (by decide) (by decide), if_pos sc1]
      exact M101 X hX
    · unfold G_Step_scan
      rw [f5, gd1 w3, Int.toNat_natCast, hin, b10, q_some, if_neg (by omega), gd1 hvp, hmv, e36, if_neg (fun z => z mv), ← s107, if_neg sc1]
  -- a scan
  have sc1 : m1 35 q = 0 := by rw [a5 35 (by decide)]; exact sc
  obtain ⟨r, rr, c2, m2, x1, x2, x3, x4, x5, x6⟩ := a3.scan (by omega) hg1 ha1 b1 b2 hq1 b5 (by rw [hin]; exact b10) (by rw [e36]; exact mv) sc1
  rw [hK1] at x2
  have x2' : G_Mo_scans (q : Int) (K : Int) m0 = some (rr, tw m2 (m0 44) (m0 45)) := by
    have := n_Mo_scans (m0 44) (m0 45) _ _ _ _ x2
    rw [← tw_eq y1] at this
    exact this
  have bt : G_Mo_body 1 (tw m2 (m0 44) (m0 45)) = some m2 := body_tw hw 1 (by rw [y1 100 (by decide) (by decide)]; exact f1) (by rw [x6 100 (by decide)]; exact f1) y2 hbd (x6 44 (by decide)) (x6 45 (by decide))
  obtain ⟨c', m', z1, z2, z3, z4, z5⟩ := x4.tail (by omega) (hCH1.of x5 x6 rfl rfl) (g := g) (k := k') (by rw [x6 3 (by decide)]; exact hg1) (by rw [x6 171 (by decide)]; exact ha1) (by rw [x6 5 (by decide), hK1]; omega) (by rw [x6 6 (by decide)]; exact hk1') (q : Int) v6 rr (by rw [x6 22 (by decide)]; exact b4.symm) (by rw [x6 36 (by decide), e36, Int.toNat_natCast, hv6])
  rw [x6 5 (by decide), hK1] at z2
  refine ⟨c', m', C1 _ ?_, M82 _ ?_, z3.more (by omega), ((a4.up (by decide)).tr (x5.up (by decide))).tr z4, ((a5.up (by decide)).tr (x6.up (by decide))).tr z5⟩
  · rw [if_pos sK, x1, q_some2, x3, ← z1]
    by_cases rz : rr = 0
    · rw [if_pos rz, if_neg (by decide)]
    · rw [if_neg rz, if_pos rfl]
  · unfold GB_Mo_actTaker_82
    rw [gd1 (by omega), Int.toNat_natCast, y1 35 (by decide) (by decide), if_neg (fun z => z sc1), x2', q_some2, aT_eq, s_bodiesLast, t5]
    have : bds [1] (tw m2 (m0 44) (m0 45)) = some m2 := by
      show (q_bv (G_Mo_body 1 (tw m2 (m0 44) (m0 45))) fun m1 => bds [] m1) = _
      rw [bt, q_some]
      rfl
    rw [this, q_some]
    exact z2
