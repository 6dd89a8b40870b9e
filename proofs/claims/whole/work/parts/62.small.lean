/-! ===== small readers of both ===== -/
theorem q_some {σ β : Type} (s : σ) (k : σ → Option β) : q_bv (some s) k = k s := by
  have h : q_bv (some s) k = k s := rfl
  exact Eq.trans h rfl
theorem q_some2 {α σ β : Type} (a : α) (s : σ) (k : α → σ → Option β) : q_bd (some (a, s)) k = k a s := by
  have h : q_bd (some (a, s)) k = k a s := rfl
  exact Eq.trans h rfl
theorem gd1 {β : Type} {c : Prop} [Decidable c] {x : Option β} (hc : c) : p_gd c x = x := gdT hc rfl
theorem bi1 {α β : Type} (e : α) (k : α → β) : p_bi e k = k e := by
  have h : p_bi e k = k e := rfl
  exact Eq.trans h rfl
theorem s_isKind (v : Int) (c : h_C) : G_SW_isKind v c = some (if 0 ≤ v ∧ v ≤ 10 then 1 else 0) := by
  unfold G_SW_isKind
  repeat' split
  all_goals first | rfl | omega
theorem s_isTakerKind (v : Int) (c : h_C) : G_SW_isTakerKind v c = some (if 0 ≤ v ∧ v < 9 then 1 else 0) := by
  unfold G_SW_isTakerKind
  repeat' split
  all_goals first | rfl | omega
theorem s_cTaker {j : Nat} (hj : vG j) (c : h_C) : G_Gear_isTaker j c = some (if 0 ≤ c 0 j 0 ∧ c 0 j 0 < 9 then 1 else 0) := by
  unfold G_Gear_isTaker
  rw [gd1 hj, s_isTakerKind, q_some, gd1]
  split <;> simp
theorem s_cBelt {j : Nat} (hj : vG j) (c : h_C) : G_Gear_isBelt j c = some (if 0 ≤ c 0 j 0 ∧ c 0 j 0 < 5 then 1 else 0) := by
  unfold G_Gear_isBelt
  rw [gd1 hj]
  repeat' split
  all_goals first | rfl | omega
theorem s_cScanner {j : Nat} (hj : vG j) (c : h_C) : G_Gear_isScanner j c = some (if c 0 j 0 = 3 ∨ c 0 j 0 = 4 then 1 else 0) := by
  unfold G_Gear_isScanner GB_Gear_isScanner_16
  rw [gd1 hj]
  repeat' split
  all_goals first | rfl | omega
theorem s_cDivert {j : Nat} (hj : vG j) (c : h_C) : G_Gear_isDivert j c = some (if c 0 j 0 = 5 ∨ c 0 j 0 = 6 then 1 else 0) := by
  unfold G_Gear_isDivert GB_Gear_isDivert_17
  rw [gd1 hj]
  repeat' split
  all_goals first | rfl | omega
theorem s_cChute {j : Nat} (hj : vG j) (c : h_C) : G_Gear_isChute j c = some (if c 0 j 0 = 7 ∨ c 0 j 0 = 8 then 1 else 0) := by
  unfold G_Gear_isChute GB_Gear_isChute_18
  rw [gd1 hj]
  repeat' split
  all_goals first | rfl | omega
theorem s_cHeld {j : Nat} (hj : vG j) (c : h_C) : G_Gear_isHeld j c = some (if c 0 j 0 = 8 ∧ c 14 j 0 = 0 then 1 else 0) := by
  unfold G_Gear_isHeld
  rw [gd1 hj]
  repeat' split
  all_goals first | rfl | omega
theorem s_cFree {j : Nat} (hj : vG j) (c : h_C) : G_Gear_isFreeAtStart j c = some (if c 2012 j 0 = 0 then 1 else 0) := by
  unfold G_Gear_isFreeAtStart
  rw [gd1 hj, gd1 (by decide)]
  show (if c 2012 j 0 ≠ 0 then some 0 else some 1) = _
  repeat' split
  all_goals first | rfl | omega
theorem s_cJam {j : Nat} (hj : vG j) (c : h_C) : G_Gear_isJammed j c = some (if 8 ≤ c 8 j 0 ∧ 0 ≤ c 0 j 0 ∧ c 0 j 0 < 9 then 1 else 0) := by
  unfold G_Gear_isJammed
  rw [gd1 hj, s_cTaker hj, q_some]
  repeat' split
  all_goals first | rfl | omega
theorem s_cChuteFor {j : Nat} (hj : vG j) (t o : Int) (c : h_C) : G_Gear_isChuteFor j t o c = some (if (c 0 j 0 = 7 ∧ t = o) ∨ (c 0 j 0 ≠ 7 ∧ t = -8) then 1 else 0) := by
  unfold G_Gear_isChuteFor
  rw [gd1 hj]
  repeat' split
  all_goals first | rfl | omega
theorem tab1 {k : Int} (h0 : 0 ≤ k) (h1 : k ≤ 10) : sw_tab 1 k.toNat = (if k = 5 then 2 else if k = 6 then 3 else if k = 7 ∨ k = 9 ∨ k = 10 then 0 else 1) := by
  have h : k = 0 ∨ k = 1 ∨ k = 2 ∨ k = 3 ∨ k = 4 ∨ k = 5 ∨ k = 6 ∨ k = 7 ∨ k = 8 ∨ k = 9 ∨ k = 10 := by omega
  rcases h with h | h | h | h | h | h | h | h | h | h | h <;> subst h <;> rfl
theorem tab2 {k : Int} (h0 : 0 ≤ k) (h1 : k ≤ 10) : sw_tab 2 k.toNat = (if k = 1 ∨ k = 4 then 2 else 1) := by
  have h : k = 0 ∨ k = 1 ∨ k = 2 ∨ k = 3 ∨ k = 4 ∨ k = 5 ∨ k = 6 ∨ k = 7 ∨ k = 8 ∨ k = 9 ∨ k = 10 := by omega
  rcases h with h | h | h | h | h | h | h | h | h | h | h <;> subst h <;> rfl
theorem tab0 {k : Int} (h0 : 0 ≤ k) (h1 : k ≤ 10) : sw_tab 0 k.toNat = (if k = 1 then 2 else if k = 4 then 4 else if k = 5 ∨ k = 6 then 3 else if k = 9 ∨ k = 10 then 0 else 1) := by
  have h : k = 0 ∨ k = 1 ∨ k = 2 ∨ k = 3 ∨ k = 4 ∨ k = 5 ∨ k = 6 ∨ k = 7 ∨ k = 8 ∨ k = 9 ∨ k = 10 := by omega
  rcases h with h | h | h | h | h | h | h | h | h | h | h <;> subst h <;> rfl
theorem s_cHasSide {j : Nat} (hj : vG j) (v : Int) (c : h_C) (h0 : 0 ≤ c 0 j 0) (h1 : c 0 j 0 ≤ 10) : G_Gear_hasSide j v c = some (if 0 ≤ v ∧ v < (if c 0 j 0 = 5 then 2 else if c 0 j 0 = 6 then 3 else if c 0 j 0 = 7 ∨ c 0 j 0 = 9 ∨ c 0 j 0 = 10 then 0 else 1) then 1 else 0) := by
  unfold G_Gear_hasSide
  rw [gd1 hj, gd1 (show 0 ≤ c 0 j 0 ∧ c 0 j 0 < (sw_tl 1 : Int) from ⟨h0, by show c 0 j 0 < 11; omega⟩), tab1 h0 h1]
  repeat' split
  all_goals first | rfl | omega
theorem s_cLinkAhead {j : Nat} (hj : vG j) (c : h_C) : G_Gear_linkAhead j c = some (if c 0 j 0 = 5 ∨ c 0 j 0 = 6 then c 6 j 0 else 0) := by
  unfold G_Gear_linkAhead
  rw [gd1 hj, s_cDivert hj, q_some]
  repeat' split
  all_goals first | rfl | omega
theorem s_mTaker (v : Int) (m : h_M) : G_Mo_isTaker v m = some (if v < 9 then 1 else 0) := by
  unfold G_Mo_isTaker
  repeat' split
  all_goals first | rfl | omega
theorem s_mDivert (v : Int) (m : h_M) : G_Mo_isDivert v m = some (if v = 5 ∨ v = 6 then 1 else 0) := by
  unfold G_Mo_isDivert GB_Mo_isDivert_11
  repeat' split
  all_goals first | rfl | omega
theorem s_mChute (v : Int) (m : h_M) : G_Mo_isChute v m = some (if v = 7 ∨ v = 8 then 1 else 0) := by
  unfold G_Mo_isChute GB_Mo_isChute_12
  repeat' split
  all_goals first | rfl | omega
theorem s_mSides (v : Int) (m : h_M) : G_Mo_sidesOf v m = some (if v = 5 then 2 else if v = 6 then 3 else 0) := by
  unfold G_Mo_sidesOf
  repeat' split
  all_goals first | rfl | omega
theorem s_mRank (v : Int) (m : h_M) : G_Mo_rankOf v m = some (if v = 1 then 2 else if v = 4 then 4 else if v = 5 ∨ v = 6 then 3 else 1) := by
  unfold G_Mo_rankOf
  rw [s_mDivert, q_some]
  repeat' split
  all_goals first | rfl | omega
theorem s_mPace (v : Int) (m : h_M) : G_Mo_paceOf v m = some (if v = 1 ∨ v = 4 then 2 else 1) := by
  unfold G_Mo_paceOf GB_Mo_paceOf_10
  repeat' split
  all_goals first | rfl | omega
theorem s_mJam {i : Nat} (hi : i < 120) (m : h_M) : G_Mo_isJammed (i : Int) m = some (if m 5 i < 9 ∧ 8 ≤ m 16 i then 1 else 0) := by
  unfold G_Mo_isJammed
  rw [gd1 (by omega), s_mTaker, q_some, Int.toNat_natCast]
  repeat' split
  all_goals first | rfl | omega
theorem s_mType (t k : Int) (m : h_M) : G_Mo_isOfType t k m = some (if t = 0 ∨ (t = 1 ∧ k < 5) ∨ (t = 2 ∧ (k = 3 ∨ k = 4)) ∨ (t = 3 ∧ (k = 7 ∨ k = 8)) then 1 else 0) := by
  unfold G_Mo_isOfType GB_Mo_isOfType_14 GB_Mo_isOfType_29 GB_Mo_isOfType_41
  rw [s_mChute, q_some]
  repeat' split
  all_goals first | rfl | omega
theorem s_cType {j : Nat} (hj : vG j) (t : Int) (ht : 0 ≤ t ∧ t ≤ 3) (c : h_C) (h0 : 0 ≤ c 0 j 0) : G_Gear_isOfType j t c = some (if t = 0 ∨ (t = 1 ∧ c 0 j 0 < 5) ∨ (t = 2 ∧ (c 0 j 0 = 3 ∨ c 0 j 0 = 4)) ∨ (t = 3 ∧ (c 0 j 0 = 7 ∨ c 0 j 0 = 8)) then 1 else 0) := by
  unfold G_Gear_isOfType
  rw [gd1 hj, gd1 hj, gd1 hj, s_cBelt hj, s_cScanner hj, s_cChute hj, q_some, q_some, q_some]
  simp only [p_gd]
  repeat' split
  all_goals first | rfl | omega
/-! ===== gear of the works at hand ===== -/
theorem s_gearOf {w g : Nat} (hw : w < 3) {c : h_C} {m : h_M} (h : RF c m) (hg : (g : Int) < m 3 w) : G_Works_gearOf w (g : Int) c = some (40 * w + g + 1) := by
  have h1 := h.1 w
  unfold G_Works_gearOf
  refine ifF (by omega) (gdT hw (ifF (by omega) (gdT (by omega) ?_)))
  rw [Int.toNat_natCast]
theorem s_gearOf0 {w : Nat} (hw : w < 3) {c : h_C} {m : h_M} (h : RF c m) {v : Int} (hg : ¬ (0 ≤ v ∧ v < m 3 w)) : G_Works_gearOf w v c = some 0 := by
  have h1 := h.1 w
  unfold G_Works_gearOf
  by_cases h0 : v < 0
  · exact ifT h0 rfl
  · exact ifF h0 (gdT hw (ifT (by omega) rfl))
theorem s_noGear {w : Nat} (hw : w < 3) {c : h_C} {m : h_M} (h : RF c m) (e : m 100 0 = (w : Int)) (v : Int) : G_Mo_noGear v m = some (if 0 ≤ v ∧ v < m 3 w then 0 else 1) := by
  have h1 := h.1 w
  unfold G_Mo_noGear
  rw [e, Int.toNat_natCast, gd1 (by omega), p_w1 (by omega) (by omega), s_beyond, q_some]
  by_cases hv : 0 ≤ v ∧ v < m 3 w
  · rw [if_pos (by omega), if_pos hv, gd1 (Or.inl rfl)]
  · rw [if_neg (by omega), if_neg hv, gd1 (Or.inr rfl)]
theorem s_g {w g : Nat} (hw : w < 3) {m : h_M} (e : m 100 0 = (w : Int)) (hg : g < 40) : G_Mo_g (g : Int) m = some ((40 * w + g : Nat) : Int) := by
  unfold G_Mo_g
  rw [e, p_w1 (x := 40 * (w : Int)) (by omega) (by omega), p_w1 (by omega) (by omega)]
  congr 1
/-- what holds of gear g of works w -/
theorem RR.gr {b : Nat} {c : h_C} {m : h_M} (h : RR b c m) {w g : Nat} (hw : w < 3) (hg : (g : Int) < m 3 w) : g < 40 ∧ 40 * w + g < 120 ∧ vG (40 * w + g + 1) ∧ c 0 (40 * w + g + 1) 0 = m 5 (40 * w + g) ∧ 0 ≤ m 5 (40 * w + g) ∧ m 5 (40 * w + g) ≤ 10 ∧ c 1 (40 * w + g + 1) 0 = m 6 (40 * w + g) ∧ 0 ≤ m 6 (40 * w + g) ∧ m 6 (40 * w + g) ≤ 8 ∧ (m 5 (40 * w + g) < 9 → 1 ≤ m 6 (40 * w + g)) ∧ (9 ≤ m 5 (40 * w + g) → m 6 (40 * w + g) = 0) := by
  have h1 := h.F.1 w
  have h2 := h.F.2.1 (40 * w + g)
  have h3 := h.F.2.2 w g hw hg
  exact ⟨by omega, by omega, ⟨by omega, by omega⟩, h2.1, h2.2.2.1, h2.2.2.2.1, h2.2.1, h2.2.2.2.2.1, h2.2.2.2.2.2, h3.1, h3.2⟩
/-! ===== how many parcels are in a gear ===== -/
def ld (m : h_M) (i : Nat) : Nat := cnt (fun k => decide (0 < m 22 (8 * i + k))) (m 6 i).toNat
theorem ld_le (m : h_M) (i : Nat) (h : m 6 i ≤ 8) : ld m i ≤ 8 := by
  have := cnt_le (fun k => decide (0 < m 22 (8 * i + k))) (m 6 i).toNat
  unfold ld
  omega
theorem s_load {i : Nat} (hi : i < 120) {m : h_M} (h0 : 0 ≤ m 6 i) (h8 : m 6 i ≤ 8) : G_Mo_loadOf (i : Int) m = some (ld m i : Int) := by
  have key : ∀ (d k fu : Nat), k + d = (m 6 i).toNat → d < fu → GO_Mo_loadOf_4 fu (i : Int) ((cnt (fun k => decide (0 < m 22 (8 * i + k))) k : Nat) : Int) (k : Int) m = some (ld m i : Int) := by
    intro d
    induction d with
    | zero =>
      intro k fu hk hf
      obtain ⟨fu, rfl⟩ : ∃ g, fu = g + 1 := ⟨fu - 1, by omega⟩
      show GL_Mo_loadOf_4 _ _ _ _ m = _
      unfold GL_Mo_loadOf_4
      rw [gd1 (by omega), Int.toNat_natCast]
      refine ifT (by omega) ?_
      unfold ld
      rw [show (m 6 i).toNat = k by omega]
    | succ d ih =>
      intro k fu hk hf
      obtain ⟨fu, rfl⟩ : ∃ g, fu = g + 1 := ⟨fu - 1, by omega⟩
      have hc := cnt_le (fun k => decide (0 < m 22 (8 * i + k))) k
      have hi2 := ih (k + 1) fu (by omega) (by omega)
      show GL_Mo_loadOf_4 _ _ _ _ m = _
      unfold GL_Mo_loadOf_4 GB_Mo_loadOf_34
      rw [gd1 (by omega), Int.toNat_natCast]
      rw [p_w1 (x := 8 * (i : Int)) (by omega) (by omega), p_w1 (x := 8 * (i : Int) + (k : Int)) (by omega) (by omega)]
      refine ifF (by omega) ?_
      rw [gd1 (by omega), show (8 * (i : Int) + (k : Int)).toNat = 8 * i + k by omega]
      unfold cnt at hi2
      by_cases hp : 0 < m 22 (8 * i + k)
      · refine ifF (by omega) (bX (bX ?_))
        rw [if_pos (by simpa using hp)] at hi2
        rw [p_w1 (by omega) (by omega), p_w1 (by omega) (by omega)]
        exact hi2
      · refine ifT (by omega) (bX (bX ?_))
        rw [if_neg (by simpa using hp)] at hi2
        rw [p_w1 (by omega) (by omega), p_w1 (by omega) (by omega)]
        exact hi2
  exact key (m 6 i).toNat 0 3000 (by omega) (by omega)
theorem SL.pos {c : h_C} {m : h_M} {w g k : Nat} (h : SL c m w g k) : (0 < m 22 (8 * (40 * w + g) + k) ↔ c 2012 (40 * w + g + 1) k ≠ 0) ∧ 0 ≤ m 22 (8 * (40 * w + g) + k) := by
  rcases h with ⟨h1, h2⟩ | ⟨pl, h1, h2, h3, h4, h5, _⟩
  · constructor
    · constructor <;> intro <;> omega
    · omega
  · constructor
    · constructor <;> intro <;> omega
    · omega
theorem s_parcels {b : Nat} {c : h_C} {m : h_M} (h : RR b c m) {w g : Nat} (hw : w < 3) (hg : (g : Int) < m 3 w) : G_Gear_parcels (40 * w + g + 1) c = some (ld m (40 * w + g) : Int) := by
  obtain ⟨g40, i120, hj, _, _, _, eL, l0, l8, _⟩ := h.gr hw hg
  have key : ∀ (d k fu : Nat), k + d = (m 6 (40 * w + g)).toNat → d < fu → GO_Gear_parcels_4 fu (40 * w + g + 1) ((cnt (fun k => decide (0 < m 22 (8 * (40 * w + g) + k))) k : Nat) : Int) (k : Int) c = some (ld m (40 * w + g) : Int) := by
    intro d
    induction d with
    | zero =>
      intro k fu hk hf
      obtain ⟨fu, rfl⟩ : ∃ g, fu = g + 1 := ⟨fu - 1, by omega⟩
      show GL_Gear_parcels_4 _ _ _ _ c = _
      unfold GL_Gear_parcels_4
      rw [gd1 hj, eL]
      refine ifT (by omega) ?_
      unfold ld
      rw [show (m 6 (40 * w + g)).toNat = k by omega]
    | succ d ih =>
      intro k fu hk hf
      obtain ⟨fu, rfl⟩ : ∃ g, fu = g + 1 := ⟨fu - 1, by omega⟩
      have hc := cnt_le (fun k => decide (0 < m 22 (8 * (40 * w + g) + k))) k
      have hi2 := ih (k + 1) fu (by omega) (by omega)
      have hs := (h.P.2.1 w g k hw g40 (by omega)).pos.1
      show GL_Gear_parcels_4 _ _ _ _ c = _
      unfold GL_Gear_parcels_4 GB_Gear_parcels_24
      rw [gd1 hj, eL, Int.toNat_natCast]
      refine ifF (by omega) ?_
      rw [gd1 (by omega)]
      unfold cnt at hi2
      by_cases hp : 0 < m 22 (8 * (40 * w + g) + k)
      · refine ifF (hs.mp hp) (bX (bX ?_))
        rw [if_pos (by simpa using hp)] at hi2
        rw [p_w1 (by omega) (by omega), p_w1 (by omega) (by omega)]
        exact hi2
      · refine ifT (Decidable.byContradiction (fun q => hp (hs.mpr q))) (bX ?_)
        rw [if_neg (by simpa using hp)] at hi2
        rw [p_w1 (by omega) (by omega)]
        exact hi2
  exact key (m 6 (40 * w + g)).toNat 0 3000 (by omega) (by omega)
