/-! ===== nights ===== -/
theorem p_ushr16 (a : Int) : 0 ≤ p_ushr a 16 ∧ p_ushr a 16 < 65536 := by
  unfold p_ushr
  generalize (Int32.ofInt a).toUInt32 = u
  have e : ((Int32.ofInt 16).toUInt32 &&& Int32.toUInt32 31) = 16 := by decide
  rw [e]
  have h1 : (u >>> 16).toNat < 65536 := by
    rw [UInt32.toNat_shiftRight]
    show u.toNat >>> 16 < 65536
    rw [Nat.shiftRight_eq_div_pow]
    have := u.toNat_lt
    omega
  have h2 : ((u >>> 16).toInt32).toInt = ((u >>> 16).toNat : Int) := by
    show (u >>> 16).toBitVec.toInt = _
    rw [BitVec.toInt_eq_toNat_of_lt (by show 2 * (u >>> 16).toNat < 2 ^ 32; omega)]
    rfl
  omega
theorem n_spoil1 {q : Nat} (hq : q < 2001) (n : Int) : ∀ (d k fu : Nat) (m : h_M), k + d = 12 → d < fu → ∃ m', GO_Mo_spoils_58 fu (q : Int) (12 * (q : Int)) n (k : Int) m = some m' ∧ eM [31, 32] m m' ∧ (∀ x, x ≠ q → m' 31 x = m 31 x) ∧ m' 31 q = n ∧ (∀ x, ¬ (12 * q + k ≤ x ∧ x < 12 * q + 12) → m' 32 x = m 32 x) := by
  intro d
  induction d with
  | zero =>
    intro k fu m hd hf
    obtain ⟨fu, rfl⟩ : ∃ g, fu = g + 1 := ⟨fu - 1, by omega⟩
    refine ⟨wm m 31 q n, ?_, eM.up (l := [31]) (by repeat first | exact eM.rf _ _ | refine eM.wm ?_ (by decide) _ _) (by decide), fun x hx => by simp [wm_at, hx], by simp [wm_at], fun x _ => by simp [wm_at]⟩
    show GL_Mo_spoils_58 _ _ _ _ _ m = _
    unfold GL_Mo_spoils_58
    rw [if_pos (by omega), gd1 (by omega), Int.toNat_natCast]
    rfl
  | succ d ih =>
    intro k fu m hd hf
    obtain ⟨fu, rfl⟩ : ∃ g, fu = g + 1 := ⟨fu - 1, by omega⟩
    obtain ⟨m', y1, y2, y3, y4, y5⟩ := ih (k + 1) fu (wm m 32 (12 * q + k) 0) (by omega) (by omega)
    refine ⟨m', ?_, eM.tr (eM.up (l := [32]) (by repeat first | exact eM.rf _ _ | refine eM.wm ?_ (by decide) _ _) (by decide)) y2, fun x hx => ?_, y4, fun x hx => ?_⟩
    · rw [← y1]
      show GL_Mo_spoils_58 _ _ _ _ _ m = _
      unfold GL_Mo_spoils_58
      rw [if_neg (by omega), p_w1 (x := 12 * (q : Int) + (k : Int)) (by omega) (by omega), gd1 (by omega), show (12 * (q : Int) + (k : Int)).toNat = 12 * q + k by omega, p_w1 (x := (k : Int) + 1) (by omega) (by omega)]
      rfl
    · rw [y3 x hx, wm_at, if_neg (by omega)]
    · rw [y5 x (by omega), wm_at, if_neg (by omega)]
theorem RR.spoil {b : Nat} {c : h_C} {m : h_M} (h : RR b c m) {w pl q : Nat} (hw : w < 3) (h1 : 1 ≤ pl) (h30 : pl ≤ 30) (eq : c 101 (31 * w + pl) 0 = (q : Int)) (hp : PO b c m w pl q) (hl : m 31 q = 8 ∨ m 31 q = 6) {v : Int} (hv : 0 ≤ v ∧ v < 65536) : ∃ c' m', G_Parcel_spoil (31 * w + pl) v c = some c' ∧ G_Mo_spoils (q : Int) v m = some m' ∧ RR b c' m' ∧ eC [2015, 111] c c' ∧ eM [31, 32] m m' := by
  have n2 := h.N.2.2.1
  have hvp : vP (31 * w + pl) := ⟨by omega, by omega⟩
  obtain ⟨⟨⟨q1, q2, q3, q4⟩, _⟩, _, _, _, _, _, ⟨x1, x2, x3, x4⟩⟩ := id hp
  have r8 : p_rem v 8 = v % 8 := p_rem1 hv.1 (by omega) (by omega)
  have d8 : p_rem (p_div v 8) 6 = v / 8 % 6 := by rw [p_div1 hv.1 (by omega) (by omega), p_rem1 (by omega) (by omega) (by omega)]
  unfold G_Parcel_spoil G_Mo_spoils
  rw [r8, d8, p_w1 (x := 12 * (q : Int)) (by omega) (by omega)]
  simp only [bi1, gd1 hvp]
  by_cases c0 : v % 8 = 0
  · obtain ⟨m', y1, y2, y3, y4⟩ := s_newLabel (q := q) (by omega) (-1) m
    refine ⟨wc c 111 (31 * w + pl) 0 (-1), m', by rw [if_pos c0], by rw [if_pos c0, y1, q_some], ?_, eC.up (l := [111]) (by repeat first | exact eC.rf _ _ | refine eC.wc ?_ (by decide) _ _ _ | refine eC.sr ?_ (by decide) _ _) (by decide), y2⟩
    exact RR.lab h hw h1 h30 eq hp (eC.up (l := [111]) (by repeat first | exact eC.rf _ _ | refine eC.wc ?_ (by decide) _ _ _ | refine eC.sr ?_ (by decide) _ _) (by decide)) y2 (fun i hi => ⟨by funext k; rw [wc_ne (by decide)], by funext k; rw [wc_at, if_neg (by omega)]⟩) (fun x hx => by rw [y3, if_neg hx]) (fun x hx => by rw [y4, if_neg hx]) (-1) (by omega) (by simp [wc_at]) (by rw [y3, if_pos rfl]) (fun k _ hk => by omega)
  rw [if_neg c0, if_neg c0]
  by_cases c1 : v % 8 = 1
  · obtain ⟨n, hn⟩ : ∃ n : Nat, v / 8 % 6 = (n : Int) := ⟨(v / 8 % 6).toNat, by omega⟩
    obtain ⟨m', y1, y2, y3, y4, y5⟩ := n_spoil1 (q := q) (by omega) (n : Int) (12 - n) n 3000 m (by omega) (by omega)
    refine ⟨wc c 111 (31 * w + pl) 0 (n : Int), m', by rw [if_pos c1, hn], by rw [if_pos c1, hn, y1], ?_, eC.up (l := [111]) (by repeat first | exact eC.rf _ _ | refine eC.wc ?_ (by decide) _ _ _ | refine eC.sr ?_ (by decide) _ _) (by decide), y2⟩
    exact RR.lab h hw h1 h30 eq hp (eC.up (l := [111]) (by repeat first | exact eC.rf _ _ | refine eC.wc ?_ (by decide) _ _ _ | refine eC.sr ?_ (by decide) _ _) (by decide)) y2 (fun i hi => ⟨by funext k; rw [wc_ne (by decide)], by funext k; rw [wc_at, if_neg (by omega)]⟩) y3 (fun x hx => y5 x (by omega)) (n : Int) (by omega) (by simp [wc_at]) y4 (fun k k12 hk => by
      rw [y5 _ (by omega), wc_ne (by decide)]
      exact x4 k k12 (by omega))
  rw [if_neg c1, if_neg c1]
  by_cases c2 : v % 8 = 2
  · obtain ⟨L, hL⟩ : ∃ L : Nat, m 31 q = (L : Int) := ⟨(m 31 q).toNat, by omega⟩
    have eb := x4 (L - 1) (by omega) (by omega)
    have hC : G_Parcel_raiseLastByte (31 * w + pl) c = some (wc c 2015 (31 * w + pl) (L - 1) (p_and (p_w (m 32 (12 * q + (L - 1)) + 1)) 255)) := by
      unfold G_Parcel_raiseLastByte
      rw [gd1 hvp, ← x1, hL, p_w1 (by omega) (by omega), bi1, if_neg (by omega), gd1 (by omega), show ((L : Int) - 1).toNat = L - 1 by omega, ← eb.1]
      rfl
    refine ⟨_, wm m 32 (12 * q + (L - 1)) (p_and (p_w (m 32 (12 * q + (L - 1)) + 1)) 255), by rw [if_pos c2, hC, q_some], ?_, ?_, eC.up (l := [2015]) (by repeat first | exact eC.rf _ _ | refine eC.wc ?_ (by decide) _ _ _ | refine eC.sr ?_ (by decide) _ _) (by decide), eM.up (l := [32]) (by repeat first | exact eM.rf _ _ | refine eM.wm ?_ (by decide) _ _) (by decide)⟩
    · rw [if_pos c2, gd1 (by omega), Int.toNat_natCast, hL, p_w1 (x := 12 * (q : Int) + (L : Int)) (by omega) (by omega), p_w1 (x := 12 * (q : Int) + (L : Int) - 1) (by omega) (by omega), gd1 (by omega), show (12 * (q : Int) + (L : Int) - 1).toNat = 12 * q + (L - 1) by omega]
    · have pa := p_and255 (p_w (m 32 (12 * q + (L - 1)) + 1))
      exact RR.lab h hw h1 h30 eq hp (eC.up (l := [2015]) (by repeat first | exact eC.rf _ _ | refine eC.wc ?_ (by decide) _ _ _ | refine eC.sr ?_ (by decide) _ _) (by decide)) (eM.up (l := [32]) (by repeat first | exact eM.rf _ _ | refine eM.wm ?_ (by decide) _ _) (by decide)) (fun i hi => ⟨by funext k; rw [wc_at, if_neg (by omega)], by funext k; rw [wc_ne (by decide)]⟩) (fun x hx => by rw [wm_at, if_neg (by omega)]) (fun x hx => by rw [wm_at, if_neg (by omega)]) (L : Int) (by omega) (by rw [wc_ne (by decide), ← x1]; exact hL) (by rw [wm_at, if_neg (by omega)]; exact hL) (fun k k12 hk => by
        rw [wc_at, wm_at]
        by_cases e : k = L - 1
        · rw [if_pos ⟨rfl, by omega⟩, if_pos ⟨rfl, rfl, e⟩]
          exact ⟨rfl, pa⟩
        · rw [if_neg (by omega), if_neg (by omega)]
          exact x4 k k12 (by omega))
  rw [if_neg c2, if_neg c2]
  exact ⟨c, m, rfl, rfl, h, eC.rf _ _, eM.rf _ _⟩
/-- what may come by night -/
theorem RR.byNight {b : Nat} (hb : b < 2000000000) {c : h_C} {m : h_M} (h : RR b c m) {w : Nat} (hw : w < 3) (e1 : m 100 0 = (w : Int)) (e2 : c 5000 0 0 = (w : Int)) (a : Int) (v4 v5 : Int) (h4 : -1000 ≤ v4 ∧ v4 < 1000) (k27 : Int → Int → Int → Int → h_M → Option (Int × h_M)) (v2 : Int) (h25 : v5 < v2) : ∃ r c' m', (r = 0 ∨ r = 1) ∧ G_SW_comeByNight (p_ushr (p_w ((p_w (a * 1103515245)) + 12345)) 16) (p_ushr (p_w ((p_w ((p_w ((p_w (a * 1103515245)) + 12345)) * 1103515245)) + 12345)) 16) (p_ushr (p_w ((p_w ((p_w ((p_w ((p_w ((p_w (a * 1103515245)) + 12345)) * 1103515245)) + 12345)) * 1103515245)) + 12345)) 16) c = some (r, c') ∧ GL_Mo_night_27 k27 v2 a v4 v5 m = GB_Mo_night_201 k27 v2 (p_w ((p_w ((p_w ((p_w ((p_w ((p_w (a * 1103515245)) + 12345)) * 1103515245)) + 12345)) * 1103515245)) + 12345)) (p_w (v4 + r)) v5 m' ∧ RR (b + 1) c' m' ∧ c' 607 0 0 = c 607 0 0 ∧ m' 102 0 = m 102 0 ∧ m' 100 0 = (w : Int) ∧ c' 5000 0 0 = (w : Int) := by
  have w3 : (0 : Int) ≤ (w : Int) ∧ (w : Int) < 3 := by omega
  generalize ha1 : p_w ((p_w (a * 1103515245)) + 12345) = a1
  generalize ha2 : p_w ((p_w (a1 * 1103515245)) + 12345) = a2
  generalize ha3 : p_w ((p_w (a2 * 1103515245)) + 12345) = a3
  obtain ⟨u1, u2⟩ := p_ushr16 a1
  obtain ⟨u3, u4⟩ := p_ushr16 a2
  have hu5 := p_ushr16 a3
  have h' := h.more (Nat.le_succ b)
  have v40 : p_w (v4 + 0) = v4 := by rw [p_w1 (by omega) (by omega)]; omega
  have no : ∀ X Y, X = some ((0 : Int), c) → Y = GB_Mo_night_201 k27 v2 a3 v4 v5 m → ∃ r c' m', (r = 0 ∨ r = 1) ∧ X = some (r, c') ∧ Y = GB_Mo_night_201 k27 v2 a3 (p_w (v4 + r)) v5 m' ∧ RR (b + 1) c' m' ∧ c' 607 0 0 = c 607 0 0 ∧ m' 102 0 = m 102 0 ∧ m' 100 0 = (w : Int) ∧ c' 5000 0 0 = (w : Int) := fun X Y hX hY => ⟨0, c, m, Or.inl rfl, hX, by rw [v40]; exact hY, h', rfl, rfl, e1, e2⟩
  unfold G_SW_comeByNight GL_Mo_night_27
  simp only [e1, e2, Int.toNat_natCast, gd1 w3, bi1, ha1, ha2, ha3, if_neg (show ¬ v2 ≤ v5 by omega)]
  by_cases hg : (0 : Int) < m 3 w
  case neg =>
    refine no _ _ ?_ ?_
    · rw [s_gearOf0 hw h.F (by omega), q_some, if_pos rfl]
    · rw [if_pos (by omega)]
  have hg0 : ((0 : Nat) : Int) < m 3 w := hg
  obtain ⟨g40, i120, hj, eK, k0, k10, eL, l0, l8, lt, ln⟩ := h.gr hw hg0
  have sg : G_Works_gearOf w 0 c = some (40 * w + 0 + 1) := s_gearOf hw h.F hg0
  have sm : G_Mo_g 0 m = some ((40 * w + 0 : Nat) : Int) := s_g hw e1 g40
  have hs := (h.P.2.1 w 0 0 hw g40 (by omega)).pos
  simp only [sg, sm, q_some, if_neg (show ¬ (40 * w + 0 + 1 = 0) by omega), if_neg (show ¬ (m 3 w ≤ 0) by omega), gd1 hj, gd1 (show (0 : Int) ≤ ((40 * w + 0 : Nat) : Int) ∧ ((40 * w + 0 : Nat) : Int) < 120 by omega), s_cTaker hj, s_mTaker, s_cChute hj, s_mChute, s_cFree hj, eK, Int.toNat_natCast, p_w1 (x := 8 * ((40 * w + 0 : Nat) : Int)) (by omega) (by omega), gd1 (show (0 : Int) ≤ 8 * ((40 * w + 0 : Nat) : Int) ∧ 8 * ((40 * w + 0 : Nat) : Int) < 960 by omega), show (8 * ((40 * w + 0 : Nat) : Int)).toNat = 8 * (40 * w + 0) + 0 by omega]
  by_cases c4 : m 5 (40 * w + 0) < 9
  case neg =>
    refine no _ _ ?_ ?_
    · simp only [if_neg (show ¬ (0 ≤ m 5 (40 * w + 0) ∧ m 5 (40 * w + 0) < 9) by omega), if_true]
    · simp only [if_neg c4, if_true]
  simp only [if_pos (show 0 ≤ m 5 (40 * w + 0) ∧ m 5 (40 * w + 0) < 9 by omega), if_pos c4, show ¬ ((1 : Int) = 0) by decide, if_false]
  by_cases c5 : m 5 (40 * w + 0) = 7 ∨ m 5 (40 * w + 0) = 8
  · refine no _ _ ?_ ?_
    · simp only [if_pos c5, ne_eq, show ¬ ((1 : Int) = 0) by decide, not_false_eq_true, if_true]
    · simp only [if_pos c5, ne_eq, show ¬ ((1 : Int) = 0) by decide, not_false_eq_true, if_true]
  simp only [if_neg c5, ne_eq, not_true_eq_false, if_false]
  by_cases c6 : c 2012 (40 * w + 0 + 1) 0 = 0
  case neg =>
    have := hs.1.mpr c6
    refine no _ _ ?_ ?_
    · simp only [if_neg c6, not_true_eq_false, if_false]
    · rw [if_pos (by omega)]
  have c6' : m 22 (8 * (40 * w + 0) + 0) = 0 := by
    rcases h.P.2.1 w 0 0 hw g40 (by omega) with ⟨_, z⟩ | ⟨pl, z1, z2, z3, _⟩
    · exact z
    · omega
  simp only [if_pos c6, show ¬ ((1 : Int) = 0) by decide, not_false_eq_true, if_true, if_neg (show ¬ (¬ (m 22 (8 * (40 * w + 0) + 0) = 0)) by omega)]
  have ewt : p_w (1 + p_rem (p_ushr a1 16) 200) = 1 + p_ushr a1 16 % 200 := by
    rw [p_rem1 u1 (by omega) (by omega), p_w1 (by omega) (by omega)]
  have esz : p_rem (p_div (p_ushr a1 16) 200) 10 = p_ushr a1 16 / 200 % 10 := by
    rw [p_div1 u1 (by omega) (by omega), p_rem1 (by omega) (by omega) (by omega)]
  have efm : p_rem (p_div (p_ushr a2 16) 100) 2 = p_ushr a2 16 / 100 % 2 := by
    rw [p_div1 u3 (by omega) (by omega), p_rem1 (by omega) (by omega) (by omega)]
  have etg : p_rem (p_ushr a2 16) 100 = p_ushr a2 16 % 100 := p_rem1 u3 (by omega) (by omega)
  rw [ewt, esz, efm, etg]
  rcases h.come hb hw e1 e2 hg0 c4 c6 (wt := 1 + p_ushr a1 16 % 200) (sz := p_ushr a1 16 / 200 % 10) (by omega) (by omega) with ⟨x1, x2⟩ | ⟨x1, pl, q, c1', c2', m2, p1, p30, q1, x2, x3, x4, x5, x6, x7, x8, x9, x10, x11⟩
  · refine no _ _ ?_ ?_
    · rw [x2, q_some2, if_neg (show ¬ (¬ ((0 : Nat) = 0)) by simp)]
    · rw [x1, q_some, if_pos (by decide)]
  obtain ⟨hq', ez, hpo⟩ : ∃ q' : Nat, c2' 101 (31 * w + pl) 0 = (q' : Int) ∧ PO (b + 1) c2' m2 w pl q' := by
    rcases x7.P.2.2.1 w pl hw p1 p30 with z | z
    · omega
    · exact z
  have : hq' = q := by omega
  subst this
  obtain ⟨c3, m3, y1, y2, y3, y4, y5, y6, y7⟩ := x7.tag hw p1 p30 x5 hpo (f := p_ushr a2 16 / 100 % 2) (t := p_ushr a2 16 % 100) (by omega) (by omega)
  obtain ⟨q', ez', hpo'⟩ : ∃ q' : Nat, c3 101 (31 * w + pl) 0 = (q' : Int) ∧ PO (b + 1) c3 m3 w pl q' := by
    rcases y3.P.2.2.1 w pl hw p1 p30 with z | z
    · rw [y6 101 (by decide)] at z; omega
    · exact z
  have : q' = hq' := by rw [y6 101 (by decide)] at ez'; omega
  subst this
  obtain ⟨c4', m4, i1, i2, i3, i4, i5⟩ := y3.spoil hw p1 p30 ez' hpo' (by rw [y5]; split <;> simp) hu5
  refine ⟨1, c4', m4, Or.inr rfl, ?_, ?_, i3, by rw [i4 607 (by decide), y6 607 (by decide)]; exact x10, by rw [i5 102 (by decide), y7 102 (by decide)]; exact x11, by rw [i5 100 (by decide), y7 100 (by decide)]; exact x9, by rw [i4 5000 (by decide), y6 5000 (by decide)]; exact x8⟩
  · rw [x2, q_some2, if_pos (show ¬ (31 * w + pl = 0) by omega), x3, Int.toNat_natCast, gd1 w3, show G_State_bringIn w (31 * w + pl) 0 _ _ c1' = _ from x4, q_some, gd1 (show vP (31 * w + pl) from ⟨by omega, by omega⟩), y1, q_some, i1, q_some]
  · rw [x1, q_some, if_neg (by decide), show G_Mo_newParcel 0 _ _ m = _ from x6, q_some2, y2, q_some, i2, q_some]
theorem l_night {w : Nat} (hw : w < 3) (v2 : Nat) (h20 : v2 ≤ 20) : ∀ (d k fu b : Nat) (c : h_C) (m : h_M) (a v4 : Int), RR b c m → c 607 0 0 = m 102 0 → m 100 0 = (w : Int) → c 5000 0 0 = (w : Int) → b + 800 * d < 600000000 → k + d = v2 → d < fu → (0 ≤ v4 ∧ v4 ≤ (k : Int)) → PR (b + 800 * d) (GO_SW_night_26 fu (v2 : Int) a v4 (k : Int) c) (GO_Mo_night_27 fu (v2 : Int) a v4 (k : Int) m) := by
  intro d
  induction d with
  | zero =>
    intro k fu b c m a v4 h hE e1 e2 hb hd hf h4
    obtain ⟨fu, rfl⟩ : ∃ g, fu = g + 1 := ⟨fu - 1, by omega⟩
    obtain ⟨r, c', m', x1, x2, x3⟩ := pr_done h v4 hE
    refine ⟨r, c', m', ?_, ?_, x3⟩
    · show GL_SW_night_26 _ _ _ _ _ c = _
      unfold GL_SW_night_26 GB_SW_night_123
      rw [if_pos (by omega), q_eta]
      exact x1
    · show GL_Mo_night_27 _ _ _ _ _ m = _
      unfold GL_Mo_night_27
      rw [if_pos (by omega), q_eta]
      exact x2
  | succ d ih =>
    intro k fu b c m a v4 h hE e1 e2 hb hd hf h4
    obtain ⟨fu, rfl⟩ : ∃ g, fu = g + 1 := ⟨fu - 1, by omega⟩
    have w3 : (0 : Int) ≤ (w : Int) ∧ (w : Int) < 3 := by omega
    obtain ⟨r, c1, m1, hr, x1, x2, x3, x4, x5, x6, x7⟩ := h.byNight (by omega) hw e1 e2 a v4 (k : Int) (by omega) (GO_Mo_night_27 fu) (v2 : Int) (by omega)
    have hE1 : c1 607 0 0 = m1 102 0 := by rw [x4, x5]; exact hE
    have hM : GO_Mo_night_27 (fu + 1) (v2 : Int) a v4 (k : Int) m = _ := x2
    rw [hM]
    have hC : ∀ X, (if (c1 607 0 0) < 5000 then
      p_gd (0 ≤ c1 5000 0 0 ∧ c1 5000 0 0 < 3) <|
      q_bd (G_Step_run (c1 5000 0 0).toNat c1) fun r32 c33 =>
      p_bi (wc c33 607 0 0 (p_w ((c1 607 0 0) + r32))) fun c35 =>
      p_bi (p_w ((k : Int) + 1)) fun x37 =>
      GO_SW_night_26 fu (v2 : Int) (p_w ((p_w ((p_w ((p_w ((p_w ((p_w (a * 1103515245)) + 12345)) * 1103515245)) + 12345)) * 1103515245)) + 12345)) (p_w (v4 + r)) x37 c35
    else
      GB_SW_night_123 (p_w (v4 + r)) c1) = X → GO_SW_night_26 (fu + 1) (v2 : Int) a v4 (k : Int) c = X := fun X hX => by
      show GL_SW_night_26 _ _ _ _ _ c = _
      unfold GL_SW_night_26 G_SW_drawnAfter
      rw [if_neg (by omega)]
      simp only [q_some, bi1]
      rw [x1, q_some2]
      exact hX
    have e4 : p_w (v4 + r) = v4 + r := p_w1 (by omega) (by omega)
    unfold GB_Mo_night_201 G_Mo_isFull
    by_cases h5 : c1 607 0 0 < 5000
    · obtain ⟨r0, c8, m8, a1, a2, a3, a4, a5, a6⟩ := x3.run (by omega) hE1 hw x6 x7
      obtain ⟨s, c', m', y1, y2, y3, y4⟩ := ih (k + 1) fu (b + 1 + 777) _ m8 (p_w ((p_w ((p_w ((p_w ((p_w ((p_w (a * 1103515245)) + 12345)) * 1103515245)) + 12345)) * 1103515245)) + 12345)) (v4 + r) a3 a4 a5 a6 (by omega) (by omega) (by omega) (by omega)
      refine ⟨s, c', m', hC _ ?_, ?_, y3.more (by omega), y4⟩
      · rw [if_pos h5, x7, gd1 w3, Int.toNat_natCast, a1, q_some2, e4, p_w1 (x := (k : Int) + 1) (by omega) (by omega)]
        exact y1
      · rw [if_pos (by omega), q_some, if_pos rfl, a2, q_some, e4, p_w1 (x := (k : Int) + 1) (by omega) (by omega)]
        exact y2
    · obtain ⟨s, c', m', y1, y2, y3⟩ := pr_done (x3.more (show b + 1 ≤ b + 800 * (d + 1) by omega)) (p_w (v4 + r)) hE1
      refine ⟨s, c', m', hC _ ?_, ?_, y3⟩
      · rw [if_neg h5]
        unfold GB_SW_night_123
        rw [q_eta]
        exact y1
      · rw [if_neg (by omega), q_some, if_neg (by decide), q_eta]
        exact y2
theorem pr_night {b : Nat} (hb : b < 500000000) {c : h_C} {m : h_M} (h : RR b c m) (hE : c 607 0 0 = m 102 0) (v1 v2 : Int) : PR (b + 16000) (G_SW_night v1 v2 c) (G_Mo_night v1 v2 m) := by
  obtain ⟨w, hw, e1, e2⟩ := h.w
  unfold G_SW_night G_Mo_night GB_SW_night_11
  by_cases hv : 1 ≤ v2 ∧ v2 ≤ 20
  · obtain ⟨n, rfl⟩ : ∃ n : Nat, v2 = (n : Int) := ⟨v2.toNat, by omega⟩
    rw [if_neg (by omega), if_pos hv.2, s_beyond0 m hv, q_some, if_pos rfl]
    obtain ⟨r, c', m', x1, x2, x3, x4⟩ := l_night hw n (by omega) n 0 3000 b c m v1 0 h hE e1 e2 (by omega) (by omega) (by omega) (by omega)
    exact ⟨r, c', m', x1, x2, x3.more (by omega), x4⟩
  · rw [s_beyond1 m hv, q_some, if_neg (show ¬ ((1 : Int) = 0) by decide), q_eta, q_eta]
    have : (if v2 < 1 then G_SW_refuse (-2) c else if v2 ≤ 20 then GO_SW_night_26 3000 v2 v1 0 0 c else G_SW_refuse (-2) c) = G_SW_refuse (-2) c := by
      by_cases z : v2 < 1
      · rw [if_pos z]
      · rw [if_neg z, if_neg (by omega)]
    rw [this]
    exact pr_refuse (h.more (by omega)) _ (by omega) hE
