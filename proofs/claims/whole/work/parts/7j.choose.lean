/-! ===== merges choose ===== -/
def fo (m : h_M) (w g l : Nat) : Int := if m 7 (40 * w + g) ≠ -1 then (if m 7 (40 * w + g) ≤ (l : Int) then -13 else if m 8 (3 * (40 * w + g) + l) ≠ -1 then (if m 3 w ≤ m 8 (3 * (40 * w + g) + l) then -11 else m 8 (3 * (40 * w + g) + l)) else -13) else -11
def lk (m : h_M) (i : Nat) : Nat := if m 5 i = 5 ∨ m 5 i = 6 then (m 10 i).toNat else 0
abbrev rdy (m : h_M) (w i : Nat) : Prop := m 5 i < 9 ∧ m 5 i ≠ 7 ∧ p_rem (m 4 w) (if m 5 i = 1 ∨ m 5 i = 4 then 2 else 1) = 0 ∧ 0 < m 22 (8 * i + (m 6 i - 1).toNat) ∧ ¬ (m 5 i = 8 ∧ m 13 i ≤ 0)
def vt (m : h_M) (w g : Nat) : Int := if rdy m w (40 * w + g) then fo m w g (lk m (40 * w + g)) else -1
theorem vt_fr {m m' : h_M} {l : List Nat} (h : eM l m m') (d : dj [3, 4, 5, 6, 7, 8, 10, 13, 22] l) (w g : Nat) : vt m' w g = vt m w g := by
  have r : ∀ f ∈ [3, 4, 5, 6, 7, 8, 10, 13, 22], m' f = m f := fun f hf => h.of hf d
  unfold vt fo lk rdy
  simp only [r 3 (by decide), r 4 (by decide), r 5 (by decide), r 6 (by decide), r 7 (by decide), r 8 (by decide), r 10 (by decide), r 13 (by decide), r 22 (by decide)]
theorem s_fo {b : Nat} {c : h_C} {m : h_M} (h : RR b c m) {w g l : Nat} (hw : w < 3) (hg : (g : Int) < m 3 w) (hl : l < 3) : G_Works_follow w (40 * w + g + 1) (l : Int) c = some (fo m w g l) := by
  obtain ⟨g40, i120, hj, _⟩ := h.gr hw hg
  obtain ⟨n1, n2, n3, _, _⟩ := (h.G.2 w g hw g40).1 hg
  have f1 := h.F.1 w
  obtain ⟨k1, k2, k3⟩ := (h.G.1 (40 * w + g)).2.2.2.2.2.2.1 l hl
  unfold G_Works_follow fo
  rw [gd1 hj, n1, gd1 (show (0 : Int) ≤ (l : Int) ∧ (l : Int) < 3 by omega), Int.toNat_natCast, k1, gd1 hw, f1.1, if_neg (show ¬ (l : Int) < 0 by omega)]
  repeat' split
  all_goals rfl
theorem s_act {w : Nat} {m : h_M} (hw : w < 3) (e1 : m 100 0 = (w : Int)) {i : Nat} (hi : i < 120) : G_Mo_isActing (i : Int) m = some (if p_rem (m 4 w) (if m 5 i = 1 ∨ m 5 i = 4 then 2 else 1) ≠ 0 then 0 else 1) := by
  unfold G_Mo_isActing
  rw [e1, gd1 (by omega), gd1 (by omega), Int.toNat_natCast, Int.toNat_natCast, s_mPace, q_some, gd1 (by split <;> decide)]
  exact (apply_ite some _ _ _).symm
theorem s_inStep {b : Nat} {c : h_C} {m : h_M} (h : RR b c m) {w g : Nat} (hw : w < 3) (e5 : c 5003 0 0 = (w : Int)) (hg : (g : Int) < m 3 w) : G_Step_isInStep (40 * w + g + 1) c = some (if p_rem (m 4 w) (if m 5 (40 * w + g) = 1 ∨ m 5 (40 * w + g) = 4 then 2 else 1) ≠ 0 then 0 else 1) := by
  obtain ⟨g40, i120, hj, eK, k0, k10, _⟩ := h.gr hw hg
  have tl : (sw_tl 2 : Int) = 11 := rfl
  unfold G_Step_isInStep
  rw [e5, gd1 (by omega), gd1 hj, eK, gd1 (by omega), tab2 k0 k10, gd1 (by split <;> decide), Int.toNat_natCast, (h.S w hw).1]
  exact (apply_ite some _ _ _).symm
theorem s_ready {b : Nat} {c : h_C} {m : h_M} (h : RR b c m) {w g : Nat} (hw : w < 3) (e5 : c 5003 0 0 = (w : Int)) (hg : (g : Int) < m 3 w) : G_Step_isReadyToGive (40 * w + g + 1) c = some (if rdy m w (40 * w + g) then 1 else 0) := by
  obtain ⟨g40, i120, hj, eK, k0, k10, eL, l0, l8, lt, ln⟩ := h.gr hw hg
  have r14 := (h.G.1 (40 * w + g)).1.2.2.2.2.2.2.2.2.1
  have b13 := (h.G.1 (40 * w + g)).2.2.2.1
  unfold G_Step_isReadyToGive G_Gear_isHeld
  rw [gd1 hj, s_cTaker hj, eK, q_some, s_inStep h hw e5 hg, q_some, e5, gd1 (by omega), Int.toNat_natCast, gd1 hj, r14]
  by_cases k9 : m 5 (40 * w + g) < 9
  case neg => rw [if_neg (show ¬ (0 ≤ m 5 (40 * w + g) ∧ m 5 (40 * w + g) < 9) by omega), if_pos rfl, if_neg (fun z => k9 z.1)]
  rw [if_pos (show 0 ≤ m 5 (40 * w + g) ∧ m 5 (40 * w + g) < 9 from ⟨k0, k9⟩), if_neg (show ¬ ((1 : Int) = 0) by decide)]
  by_cases k7 : m 5 (40 * w + g) = 7
  · rw [if_pos k7, if_neg (fun z => z.2.1 k7)]
  rw [if_neg k7]
  by_cases ac : p_rem (m 4 w) (if m 5 (40 * w + g) = 1 ∨ m 5 (40 * w + g) = 4 then 2 else 1) = 0
  case neg => rw [if_pos ac, if_pos rfl, if_neg (fun z => ac z.2.2.1)]
  rw [if_neg (show ¬ (p_rem (m 4 w) (if m 5 (40 * w + g) = 1 ∨ m 5 (40 * w + g) = 4 then 2 else 1) ≠ 0) from fun z => z ac), if_neg (show ¬ ((1 : Int) = 0) by decide)]
  obtain ⟨k, k8, hk1, hin⟩ := s_inLast h hw hg k9
  have ek : (m 6 (40 * w + g) - 1).toNat = k := by omega
  rcases s_inSlot h hw hg k8 with ⟨x1, x2, x3⟩ | ⟨pl, q, b1, b2, b3, b4, b5, b6, b7, b8, b9, b10⟩
  · rw [hin, x3, q_some, if_pos rfl, if_neg (fun z => by have := z.2.2.2.1; rw [ek, x2] at this; omega)]
  · have hq1 : 1 ≤ q := b9.1.1.1
    rw [hin, b10, q_some, if_neg (by omega)]
    have pos : 0 < m 22 (8 * (40 * w + g) + (m 6 (40 * w + g) - 1).toNat) := by rw [ek, b4]; omega
    by_cases h8 : m 5 (40 * w + g) = 8
    · by_cases h13 : m 13 (40 * w + g) = 0
      · rw [if_neg (show ¬ m 5 (40 * w + g) ≠ 8 from fun z => z h8), if_neg (show ¬ m 13 (40 * w + g) ≠ 0 from fun z => z h13), q_some, if_pos (by decide), if_neg (fun z => z.2.2.2.2 ⟨h8, by omega⟩)]
      · rw [if_neg (show ¬ m 5 (40 * w + g) ≠ 8 from fun z => z h8), if_pos h13, q_some, if_neg (by decide), if_pos ⟨k9, k7, ac, pos, fun z => by omega⟩]
    · rw [if_pos h8, q_some, if_neg (by decide), if_pos ⟨k9, k7, ac, pos, fun z => h8 z.1⟩]
theorem lk3 {b : Nat} {c : h_C} {m : h_M} (h : RR b c m) (i : Nat) : lk m i < 3 ∧ (lk m i : Int) = if m 5 i = 5 ∨ m 5 i = 6 then m 10 i else 0 := by
  obtain ⟨b1, b2⟩ := (h.G.1 i).2.1
  unfold lk
  constructor
  · split <;> omega
  · split <;> omega
theorem s_wayC {b : Nat} {c : h_C} {m : h_M} (h : RR b c m) {w g : Nat} (hw : w < 3) (e4 : c 5002 0 0 = (w : Int)) (e5 : c 5003 0 0 = (w : Int)) (hg : (g : Int) < m 3 w) (k34 : Int → h_C → Option h_C) : GL_Step_letMergesChoose_34 k34 (g : Int) c = GB_Step_letMergesChoose_93 k34 (g : Int) (vt m w g) c := by
  obtain ⟨g40, i120, hj, eK, _⟩ := h.gr hw hg
  have f1 := h.F.1 w
  obtain ⟨⟨a1, _⟩, _⟩ := h.G.1 (40 * w + g)
  obtain ⟨l3, le⟩ := lk3 h (40 * w + g)
  unfold GL_Step_letMergesChoose_34 vt
  rw [e4, e5, Int.toNat_natCast, gd1 (by omega), f1.1, if_neg (by omega), gd1 (by omega), gd1 (by omega), Int.toNat_natCast, s_ready h hw e5 hg, q_some]
  by_cases r : rdy m w (40 * w + g)
  · rw [if_pos r, if_pos r, if_neg (by decide), s_cLinkAhead hj, eK, a1, ← le, q_some, s_fo h hw hg l3, q_some]
  · rw [if_neg r, if_neg r, if_pos rfl]
