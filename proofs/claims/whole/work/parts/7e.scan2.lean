def scC : List Nat := [104, 107, 900, 901, 902, 903, 2041, 2005, 403, 804, 12, 2003]
def scM : List Nat := [30, 35, 175, 176, 177, 178, 79, 173, 180, 43, 42, 102, 172, 20, 51]
/-- a scanner scans what waits in its last slot -/
theorem ZZ.scan {b : Nat} (hb : b < 1000000000) {c : h_C} {m : h_M} {w : Nat} {F L : Int} (h : ZZ b c m w F L) {g pl q : Nat} (hg : (g : Int) < m 3 w) (ha : m 171 0 = (g : Int)) (p1 : 1 ≤ pl) (p30 : pl ≤ 30) (hq : 1 ≤ q) (ep : c 101 (31 * w + pl) 0 = (q : Int)) (hin : G_State_inLastSlot w (40 * w + g + 1) c = some (31 * w + pl)) (hmv : m 36 q = 0) (hsc : m 35 q = 0) : ∃ r rr c' m', G_Step_scan (g : Int) (40 * w + g + 1) c = some (r, c') ∧ G_Mo_scans (q : Int) (m 5 (40 * w + g)) m = some (rr, m') ∧ r = (if rr = 0 then 1 else 0) ∧ ZZ (b + 13) c' m' w F L ∧ eC scC c c' ∧ eM scM m m' := by
  obtain ⟨hR, ⟨hw, e1, e2, e3, e4, e5⟩, hMV, _⟩ := id h
  obtain ⟨g40, i120, hj, eK, k0, k10, eL, l0, l8, lt, ln⟩ := hR.gr hw hg
  have hvp : vP (31 * w + pl) := ⟨by omega, by omega⟩
  have hp := hR.po hw p1 p30 hq ep
  have n2 := hR.N.2.2.1
  have qn := hp.1.1.2.1
  have q2 : q < 2001 := by omega
  have mv := (hMV pl q p1 p30 hq ep).1
  have s107 := hp.2.2.2.2.1.1
  have w3 : (0 : Int) ≤ (w : Int) ∧ (w : Int) < 3 := by omega
  have q3 : (0 : Int) ≤ (q : Int) ∧ (q : Int) < 2001 := by omega
  -- before the reading
  have ha1 : ZZ b (wc c 107 (31 * w + pl) 0 1) (wm m 35 q 1) w F L := h.sc p1 p30 hq ep
  have hb1 : ZZ b (wc (wc c 107 (31 * w + pl) 0 1) 104 (31 * w + pl) 0 (-8)) (wm (wm m 35 q 1) 30 q (-8)) w F L := ha1.tg p1 p30 hq (by rw [wc_at, if_neg (by omega)]; exact ep) (-8) (Or.inr (Or.inl rfl))
  have y1 : eC [104, 107] c (wc (wc c 107 (31 * w + pl) 0 1) 104 (31 * w + pl) 0 (-8)) := (by repeat first | exact eC.rf _ _ | refine eC.wc ?_ (by decide) _ _ _ | refine eC.sr ?_ (by decide) _ _)
  have y2 : eM [35] m (wm m 35 q 1) := (by repeat first | exact eM.rf _ _ | refine eM.wm ?_ (by decide) _ _)
  have hC0 : ∀ r17 c18, G_Reading_read (31 * w + pl) (wc (wc c 107 (31 * w + pl) 0 1) 104 (31 * w + pl) 0 (-8)) = some (r17, c18) → ∀ X, (if r17 = 0 then (if (c18 900 0 0) ≠ 0 then some (1, c18) else (if (c18 0 (40 * w + g + 1) 0) ≠ 4 then GB_Step_scan_101 (g : Int) (31 * w + pl) c18 else (if (c18 902 0 0) ≠ (c18 102 (31 * w + pl) 0) then some (1, c18) else GB_Step_scan_101 (g : Int) (31 * w + pl) c18))) else q_bv (G_Step_addFinding (g : Int) 2 r17 (c18 101 (31 * w + pl) 0) c18) fun c27 => some (0, c27)) = X → G_Step_scan (g : Int) (40 * w + g + 1) c = X := by
    intro r17 c18 hr X hX
    unfold G_Step_scan
    rw [e5, gd1 w3, Int.toNat_natCast, hin, q_some, if_neg (by omega), gd1 hvp, mv, if_neg (fun z => z hmv), ← s107, if_pos hsc, bi1, bi1, hr, q_some2, gd1 hj]
    exact hX
  have hM0 : ∀ r6 m7, G_Mo_reads (q : Int) (wm m 35 q 1) = some (r6, m7) → ∀ X, (if (m7 178 0) ≤ 0 then GB_Mo_scans_30 (q : Int) (m 5 (40 * w + g)) r6 m7 else q_bv (G_Mo_find 2 (m7 178 0) (q : Int) m7) fun m12 => GB_Mo_scans_30 (q : Int) (m 5 (40 * w + g)) r6 m12) = X → G_Mo_scans (q : Int) (m 5 (40 * w + g)) m = X := by
    intro r6 m7 hr X hX
    unfold G_Mo_scans
    rw [gd1 q3, Int.toNat_natCast, bi1, hr, q_some2]
    exact hX
  have hM52 : ∀ m7 : h_M, GB_Mo_scans_52 (q : Int) m7 = (if m7 178 0 ≤ 0 then some (0, wm m7 30 q (-8)) else some (1, wm m7 30 q (-8))) := by
    intro m7
    unfold GB_Mo_scans_52
    rw [gd1 q3, Int.toNat_natCast, bi1, show (wm m7 30 q (-8)) 178 0 = m7 178 0 by rw [wm_at, if_neg (by omega)]]
  have hlb : LB (wc (wc c 107 (31 * w + pl) 0 1) 104 (31 * w + pl) 0 (-8)) (wm m 35 q 1) w pl q := by
    have := hp.lb
    unfold LB at this ⊢
    rw [y1 111 (by decide), y1 2015 (by decide), y2 31 (by decide), y2 32 (by decide)]
    exact this
  obtain ⟨r, rr, cb, mc, x1, x2, x3, x4, x5⟩ := s_read hw p1 p30 q2 hlb
  generalize wc (wc c 107 (31 * w + pl) 0 1) 104 (31 * w + pl) 0 (-8) = ca at hb1 y1 hC0 hlb x1 x3
  have x4' : eM dM (wm (wm m 35 q 1) 30 q (-8)) (wm mc 30 q (-8)) := by
    intro f hf
    funext x
    rw [wm_at, wm_at, x4 f hf]
  have hB : ZZ b cb (wm mc 30 q (-8)) w F L := hb1.scr x3 x4' rfl rfl rfl rfl
  have z1 : eC scC c cb := (y1.up (by decide)).tr (x3.up (by decide))
  have z2 : eM scM m mc := (y2.up (by decide)).tr (x4.up (by decide))
  have z3 : eM scM m (wm mc 30 q (-8)) := z2.tr (eM.up (l := [30]) (by repeat first | exact eM.rf _ _ | refine eM.wm ?_ (by decide) _ _) (by decide))
  have c101 : cb 101 (31 * w + pl) 0 = (q : Int) := by rw [z1 101 (by decide)]; exact ep
  have hgB : (g : Int) < (wm mc 30 q (-8)) 3 w := by rw [z3 3 (by decide)]; exact hg
  have haB : (wm mc 30 q (-8)) 171 0 = (g : Int) := by rw [z3 171 (by decide)]; exact ha
  have c0 : cb 0 (40 * w + g + 1) 0 = m 5 (40 * w + g) := by rw [z1 0 (by decide)]; exact eK
  have plain : ∃ c' m', some ((1 : Int), cb) = some ((1 : Int), c') ∧ some ((0 : Int), wm mc 30 q (-8)) = some ((0 : Int), m') ∧ ZZ (b + 13) c' m' w F L ∧ eC scC c c' ∧ eM scM m m' := ⟨_, _, rfl, rfl, hB.more (by omega), z1, z3⟩
  rcases x5 with ⟨f, hf, rfl, h178, rfl⟩ | ⟨rfl, h900, h178, rfl⟩ | ⟨rfl, h900, h178, rfl, hV⟩
  · -- nothing to read
    have hf6 : 1 ≤ f ∧ f ≤ 6 := by omega
    obtain ⟨c', m', a1, a2, a3, a4, a5, _⟩ := hB.fi (by omega) (g : Int) 2 f (q : Int) hf6 (Or.inr ⟨by omega, hgB, haB⟩)
    rw [if_neg (by omega)] at a1
    have tmc : mc = tv (wm mc 30 q (-8)) (mc 30) (mc 30) := tv_eq (fun f hf => by
      funext x
      rw [wm_at, if_neg (fun z => hf z.1)]) rfl
    have a2' : G_Mo_find 2 f (q : Int) mc = some (tv m' (mc 30) (mc 30)) := by
      rw [tmc]
      exact k_Mo_find _ _ _ _ _ _ _ a2
    have e30 : m' 30 = (wm mc 30 q (-8)) 30 := a5 30 (by decide)
    have back : wm (tv m' (mc 30) (mc 30)) 30 q (-8) = m' := by
      rw [tv_w30]
      refine (tv_eq (fun f _ => rfl) ?_).symm
      rw [e30]
      funext i
      rw [wm_at]
      simp
    have t178 : (tv m' (mc 30) (mc 30)) 178 0 = f := by
      rw [tv_ne _ _ _ (by decide), a5 178 (by decide), wm_at, if_neg (by omega), h178]
    refine ⟨0, 1, c', m', hC0 _ _ x1 _ ?_, hM0 _ _ x2 _ ?_, rfl, a3.more (by omega), z1.tr (a4.up (by decide)), z3.tr (a5.up (by decide))⟩
    · rw [if_neg (by omega), c101, a1, q_some]
    · rw [h178, if_neg (by omega), a2', q_some]
      unfold GB_Mo_scans_30
      rw [if_pos rfl, hM52, t178, if_neg (by omega), back]
  · obtain ⟨c', m', a1, a2, a3⟩ := plain
    refine ⟨1, 0, c', m', hC0 _ _ x1 _ ?_, hM0 _ _ x2 _ ?_, rfl, a3⟩
    · rw [if_pos rfl, h900, if_pos (by decide)]; exact a1
    · rw [h178, if_pos (by decide)]
      unfold GB_Mo_scans_30
      rw [if_pos rfl, hM52, h178, if_pos (by decide)]; exact a2
  · have w102 : cb 102 (31 * w + pl) 0 = m 28 q := by rw [z1 102 (by decide)]; exact hp.2.1.1.symm
    have w28 : mc 28 q = m 28 q := by rw [z2 28 (by decide)]
    -- the rules are asked
    have asked : ∃ c' m', GB_Step_scan_101 (g : Int) (31 * w + pl) cb = some (1, c') ∧ GB_Mo_scans_73 (q : Int) mc = some (0, m') ∧ ZZ (b + 13) c' m' w F L ∧ eC scC c c' ∧ eM scM m m' := by
      obtain ⟨⟨u1, u2, u3⟩, _⟩ := hB.1.U w hw
      obtain ⟨n, hn⟩ : ∃ n : Nat, (wm mc 30 q (-8)) 48 w = (n : Int) := ⟨((wm mc 30 q (-8)) 48 w).toNat, by omega⟩
      have hVB : VV cb (wm mc 30 q (-8)) := by
        unfold VV
        simpa [wm_at] using hV
      have hA9 : (fun i => if i = q then (-9 : Int) else mc 30 i) q = -9 := by simp
      obtain ⟨t, c', m', a1, a2, a3, a4, a5, a6⟩ := ZZ.rules (g := g) q2 (fun i => if i = q then (-9 : Int) else mc 30 i) hA9 n 0 3000 b cb (wm mc 30 q (-8)) hB (by omega) hVB hgB haB (by rw [hn, Nat.zero_add]) (by omega)
      have c101' : c' 101 (31 * w + pl) 0 = (q : Int) := by rw [a5 101 (by decide)]; exact c101
      have hfin := a4.tg p1 p30 hq c101' t (by omega)
      have tm : wm mc 30 q (-9) = tv (wm mc 30 q (-8)) (fun i => if i = q then (-9 : Int) else mc 30 i) (fun i => if i = q then (-9 : Int) else mc 30 i) := tv_eq (fun f hf => by
        funext x
        rw [wm_at, wm_at, if_neg (fun z => hf z.1), if_neg (fun z => hf z.1)]) (by
        funext x
        rw [wm_at]
        simp)
      have e30 : m' 30 = (wm mc 30 q (-8)) 30 := a6 30 (by decide)
      have back : tv m' (fun i => if i = q then t else (fun i => if i = q then (-9 : Int) else mc 30 i) i) (fun i => if i = q then (-9 : Int) else mc 30 i) = wm m' 30 q t := by
        refine (tv_eq (fun f hf => ?_) ?_).symm
        · funext x
          rw [wm_at, if_neg (fun z => hf z.1)]
        · funext x
          rw [wm_at, e30, wm_at]
          by_cases ex : x = q
          · simp [ex]
          · simp [ex]
      refine ⟨_, _, ?_, ?_, hfin.more (by omega), (z1.tr (a5.up (by decide))).tr (eC.up (l := [104]) (by repeat first | exact eC.rf _ _ | refine eC.wc ?_ (by decide) _ _ _ | refine eC.sr ?_ (by decide) _ _) (by decide)), (z3.tr (a6.up (by decide))).tr (eM.up (l := [30]) (by repeat first | exact eM.rf _ _ | refine eM.wm ?_ (by decide) _ _) (by decide))⟩
      · unfold GB_Step_scan_101 G_Step_targetByRules
        rw [show GO_Step_targetByRules_2 3000 (g : Int) 0 cb = some (t, c') from a1, q_some2, gd1 hvp, bi1]
      · unfold GB_Mo_scans_73
        rw [gd1 q3, Int.toNat_natCast, bi1, tm, ← back]
        exact a2
    by_cases k4 : m 5 (40 * w + g) = 4 ∧ cb 902 0 0 ≠ m 28 q
    · obtain ⟨c', m', a1, a2, a3⟩ := plain
      refine ⟨1, 0, c', m', hC0 _ _ x1 _ ?_, hM0 _ _ x2 _ ?_, rfl, a3⟩
      · rw [if_pos rfl, h900, if_neg (by decide), c0, if_neg (by simp [k4.1]), w102, if_pos k4.2]; exact a1
      · rw [h178, if_pos (by decide)]
        unfold GB_Mo_scans_30
        rw [if_neg (by decide), if_neg (by simp [k4.1]), gd1 q3, Int.toNat_natCast, w28, ← hV.2.1.1, if_neg k4.2, hM52, h178, if_pos (by decide)]; exact a2
    · obtain ⟨c', m', a1, a2, a3⟩ := asked
      refine ⟨1, 0, c', m', hC0 _ _ x1 _ ?_, hM0 _ _ x2 _ ?_, rfl, a3⟩
      · rw [if_pos rfl, h900, if_neg (by decide), c0, w102]
        by_cases k : m 5 (40 * w + g) = 4
        · rw [if_neg (by simp [k]), if_neg (fun z => k4 ⟨k, z⟩)]; exact a1
        · rw [if_pos k]; exact a1
      · rw [h178, if_pos (by decide)]
        unfold GB_Mo_scans_30
        rw [if_neg (by decide), gd1 q3, Int.toNat_natCast, w28, ← hV.2.1.1]
        by_cases k : m 5 (40 * w + g) = 4
        · rw [if_neg (by simp [k]), if_pos (Decidable.byContradiction fun z => k4 ⟨k, z⟩)]; exact a2
        · rw [if_pos k]; exact a2
